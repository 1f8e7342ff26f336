section
-- ===== PART A: goes FIRST, ahead of the names: the tables' words, and 'selects' of the private methods out of them =====
/-- a private method of a class that the tables say can be made, by its rows of tables_1 -/
def lw_okq (q : MethodName × Nat) : Prop := (q.1.cls ≠ "java/lang/invoke/MethodHandle" ∧ q.1.cls ≠ "java/lang/invoke/VarHandle") ∧ Cond.instantiable q.1.cls q.2 ∈ tables_1 ∧ Cond.privateMethod q.1 ∈ tables_1 ∧ Cond.instanceMethod q.1 ∈ tables_1
theorem lw_p0 : lw_okq (⟨"ReferredNames", "takeHand", "()I"⟩, 7) := ⟨⟨by decide +kernel, by decide +kernel⟩, List.mem_of_getElem? (i := 4) (by decide +kernel), List.mem_of_getElem? (i := 44) (by decide +kernel), List.mem_of_getElem? (i := 45) (by decide +kernel)⟩
theorem lw_p1 : lw_okq (⟨"ReferredNames", "isInHand", "(I)Z"⟩, 7) := ⟨⟨by decide +kernel, by decide +kernel⟩, List.mem_of_getElem? (i := 4) (by decide +kernel), List.mem_of_getElem? (i := 52) (by decide +kernel), List.mem_of_getElem? (i := 53) (by decide +kernel)⟩
theorem lw_p2 : lw_okq (⟨"ReferredNames", "learnHand", "()I"⟩, 7) := ⟨⟨by decide +kernel, by decide +kernel⟩, List.mem_of_getElem? (i := 4) (by decide +kernel), List.mem_of_getElem? (i := 56) (by decide +kernel), List.mem_of_getElem? (i := 57) (by decide +kernel)⟩
theorem lw_p3 : lw_okq (⟨"ReferredNames", "isGiven", "(I)Z"⟩, 7) := ⟨⟨by decide +kernel, by decide +kernel⟩, List.mem_of_getElem? (i := 4) (by decide +kernel), List.mem_of_getElem? (i := 60) (by decide +kernel), List.mem_of_getElem? (i := 61) (by decide +kernel)⟩
theorem lw_p4 : lw_okq (⟨"ReferredNames", "isKnown", "(I)Z"⟩, 7) := ⟨⟨by decide +kernel, by decide +kernel⟩, List.mem_of_getElem? (i := 4) (by decide +kernel), List.mem_of_getElem? (i := 73) (by decide +kernel), List.mem_of_getElem? (i := 74) (by decide +kernel)⟩
theorem lw_p5 : lw_okq (⟨"ReferredNames", "firstMissingFrom", "(I)I"⟩, 7) := ⟨⟨by decide +kernel, by decide +kernel⟩, List.mem_of_getElem? (i := 4) (by decide +kernel), List.mem_of_getElem? (i := 77) (by decide +kernel), List.mem_of_getElem? (i := 78) (by decide +kernel)⟩
theorem lw_p6 : lw_okq (⟨"ReferredNames", "isMissing", "(I)Z"⟩, 7) := ⟨⟨by decide +kernel, by decide +kernel⟩, List.mem_of_getElem? (i := 4) (by decide +kernel), List.mem_of_getElem? (i := 81) (by decide +kernel), List.mem_of_getElem? (i := 82) (by decide +kernel)⟩
theorem lw_p7 : lw_okq (⟨"ReferredNames", "countGiven", "()I"⟩, 7) := ⟨⟨by decide +kernel, by decide +kernel⟩, List.mem_of_getElem? (i := 4) (by decide +kernel), List.mem_of_getElem? (i := 93) (by decide +kernel), List.mem_of_getElem? (i := 94) (by decide +kernel)⟩
theorem lw_p8 : lw_okq (⟨"ReferredNames", "countMissing", "()I"⟩, 7) := ⟨⟨by decide +kernel, by decide +kernel⟩, List.mem_of_getElem? (i := 4) (by decide +kernel), List.mem_of_getElem? (i := 97) (by decide +kernel), List.mem_of_getElem? (i := 98) (by decide +kernel)⟩
theorem lw_p9 : lw_okq (⟨"ReferredNames", "countGivingsInVain", "()I"⟩, 7) := ⟨⟨by decide +kernel, by decide +kernel⟩, List.mem_of_getElem? (i := 4) (by decide +kernel), List.mem_of_getElem? (i := 101) (by decide +kernel), List.mem_of_getElem? (i := 102) (by decide +kernel)⟩
theorem lw_p10 : lw_okq (⟨"ReferredNamesModel", "known", "()I"⟩, 7) := ⟨⟨by decide +kernel, by decide +kernel⟩, List.mem_of_getElem? (i := 109) (by decide +kernel), List.mem_of_getElem? (i := 146) (by decide +kernel), List.mem_of_getElem? (i := 147) (by decide +kernel)⟩
theorem lw_p11 : lw_okq (⟨"ReferredNamesModel", "place", "()I"⟩, 7) := ⟨⟨by decide +kernel, by decide +kernel⟩, List.mem_of_getElem? (i := 109) (by decide +kernel), List.mem_of_getElem? (i := 150) (by decide +kernel), List.mem_of_getElem? (i := 151) (by decide +kernel)⟩
theorem lw_p12 : lw_okq (⟨"ReferredNamesModel", "missingFrom", "(I)I"⟩, 7) := ⟨⟨by decide +kernel, by decide +kernel⟩, List.mem_of_getElem? (i := 109) (by decide +kernel), List.mem_of_getElem? (i := 166) (by decide +kernel), List.mem_of_getElem? (i := 167) (by decide +kernel)⟩
theorem lw_p13 : lw_okq (⟨"ReferredNamesModel", "isMissing", "(I)Z"⟩, 7) := ⟨⟨by decide +kernel, by decide +kernel⟩, List.mem_of_getElem? (i := 109) (by decide +kernel), List.mem_of_getElem? (i := 170) (by decide +kernel), List.mem_of_getElem? (i := 171) (by decide +kernel)⟩
def lw_privs_1 : List (MethodName × Nat) := [(⟨"ReferredNames", "takeHand", "()I"⟩, 7), (⟨"ReferredNames", "isInHand", "(I)Z"⟩, 7), (⟨"ReferredNames", "learnHand", "()I"⟩, 7), (⟨"ReferredNames", "isGiven", "(I)Z"⟩, 7), (⟨"ReferredNames", "isKnown", "(I)Z"⟩, 7), (⟨"ReferredNames", "firstMissingFrom", "(I)I"⟩, 7), (⟨"ReferredNames", "isMissing", "(I)Z"⟩, 7), (⟨"ReferredNames", "countGiven", "()I"⟩, 7), (⟨"ReferredNames", "countMissing", "()I"⟩, 7), (⟨"ReferredNames", "countGivingsInVain", "()I"⟩, 7), (⟨"ReferredNamesModel", "known", "()I"⟩, 7), (⟨"ReferredNamesModel", "place", "()I"⟩, 7), (⟨"ReferredNamesModel", "missingFrom", "(I)I"⟩, 7), (⟨"ReferredNamesModel", "isMissing", "(I)Z"⟩, 7)]
theorem lw_r1 : ∀ q ∈ lw_privs_1, lw_okq q := List.forall_mem_cons.mpr ⟨lw_p0, List.forall_mem_cons.mpr ⟨lw_p1, List.forall_mem_cons.mpr ⟨lw_p2, List.forall_mem_cons.mpr ⟨lw_p3, List.forall_mem_cons.mpr ⟨lw_p4, List.forall_mem_cons.mpr ⟨lw_p5, List.forall_mem_cons.mpr ⟨lw_p6, List.forall_mem_cons.mpr ⟨lw_p7, List.forall_mem_cons.mpr ⟨lw_p8, List.forall_mem_cons.mpr ⟨lw_p9, List.forall_mem_cons.mpr ⟨lw_p10, List.forall_mem_cons.mpr ⟨lw_p11, List.forall_mem_cons.mpr ⟨lw_p12, List.forall_mem_cons.mpr ⟨lw_p13, fun _ h => absurd h List.not_mem_nil⟩⟩⟩⟩⟩⟩⟩⟩⟩⟩⟩⟩⟩⟩
def lw_privs : List (MethodName × Nat) := lw_privs_1
def lw_tbl : List Cond := k2_sels lw_privs ++ tables_1
theorem lw_privs_ok : ∀ q ∈ lw_privs, lw_okq q := lw_r1
end
section
/-! ===== BEGIN words of one list among another's, by their places ===== -/
theorem goodIn_r {big : List Cond} (ws : List Cond) (ps : List Nat) (hp : ws = ps.filterMap (fun i => big[i]?)) (h : ws.all goodWord = true) : GoodIn big ws := by
  intro w hw
  have h1 := List.all_eq_true.mp h w hw
  rw [hp] at hw
  obtain ⟨i, -, hi⟩ := List.mem_filterMap.mp hw
  have hm : w ∈ big := by first | exact List.mem_of_getElem? hi | exact List.getElem?_mem hi
  exact ⟨hm, good_of_word h1⟩
theorem goodIn_app {big a b : List Cond} (ha : GoodIn big a) (hb : GoodIn big b) : GoodIn big (a ++ b) := fun w h => (List.mem_append.mp h).elim (ha w) (hb w)
theorem goodIn_ca {big a b : List Cond} {c : Cond} (ha : GoodIn big (c :: a)) (hb : GoodIn big b) : GoodIn big (c :: (a ++ b)) := fun w h => (List.mem_cons.mp h).elim (fun e => ha w (List.mem_cons.mpr (Or.inl e))) (fun h => (List.mem_append.mp h).elim (fun h => ha w (List.mem_cons.mpr (Or.inr h))) (hb w))
theorem goodIn_sub {big ws : List Cond} (hm : ∀ w ∈ ws, w ∈ big) (h : ws.all goodWord = true) : GoodIn big ws := fun w hw => ⟨hm w hw, good_of_word (List.all_eq_true.mp h w hw)⟩
/-! ===== END ===== -/

/-! ===== BEGIN printed: names, fields, word lists, decode rows ===== -/
def RX0 : String := "ReferredNames"
def TX0 : u_T := fun k => match k with
  | 0 => ("ReferredNames", "hand", "[B", true)
  | 1 => ("ReferredNames", "handLength", "I", false)
  | 2 => ("ReferredNames", "bytes", "[B", true)
  | 3 => ("ReferredNames", "lengths", "[I", true)
  | 4 => ("ReferredNames", "givings", "[I", true)
  | 5 => ("ReferredNames", "referrals", "[I", true)
  | _ => ("ReferredNames", "known", "I", false)
def tyX0 : Nat → FieldType := fun k => match k with
  | 0 => .array .byte
  | 1 => .int
  | 2 => .array .byte
  | 3 => .array .int
  | 4 => .array .int
  | 5 => .array .int
  | _ => .int
abbrev wsX00 : List Cond := u_ws RX0 TX0 7
theorem nmX0 : ∀ a, a < 7 → ∀ b, b < 7 → a ≠ b → (TX0 a).2.1 ≠ (TX0 b).2.1 := by decide +kernel
theorem tyX0_ok : ∀ k, k < 7 → parseFieldDescriptor (TX0 k).2.2.1 = some (tyX0 k) := by decide +kernel
abbrev cX0_init : ByteArray := prog_1_method_1_code
def yX0_init : MethodName := ⟨RX0, "<init>", "()V"⟩
abbrev cX0_put : ByteArray := prog_1_method_2_code
def yX0_put : MethodName := ⟨RX0, "put", "(JI)Z"⟩
abbrev cX0_give : ByteArray := prog_1_method_3_code
def yX0_give : MethodName := ⟨RX0, "give", "()I"⟩
abbrev cX0_refer : ByteArray := prog_1_method_4_code
def yX0_refer : MethodName := ⟨RX0, "refer", "()I"⟩
abbrev cX0_find : ByteArray := prog_1_method_5_code
def yX0_find : MethodName := ⟨RX0, "find", "()I"⟩
abbrev cX0_look : ByteArray := prog_1_method_6_code
def yX0_look : MethodName := ⟨RX0, "look", "(II)I"⟩
abbrev cX0_byteOf : ByteArray := prog_1_method_7_code
def yX0_byteOf : MethodName := ⟨RX0, "byteOf", "(II)I"⟩
abbrev cX0_count : ByteArray := prog_1_method_8_code
def yX0_count : MethodName := ⟨RX0, "count", "(I)I"⟩
abbrev cX0_clear : ByteArray := prog_1_method_9_code
def yX0_clear : MethodName := ⟨RX0, "clear", "()I"⟩
abbrev cX0_takeHand : ByteArray := prog_1_method_10_code
def yX0_takeHand : MethodName := ⟨RX0, "takeHand", "()I"⟩
abbrev cX0_learnHand : ByteArray := prog_1_method_11_code
def yX0_learnHand : MethodName := ⟨RX0, "learnHand", "()I"⟩
abbrev cX0_isInHand : ByteArray := prog_1_method_12_code
def yX0_isInHand : MethodName := ⟨RX0, "isInHand", "(I)Z"⟩
abbrev cX0_isKnown : ByteArray := prog_1_method_13_code
def yX0_isKnown : MethodName := ⟨RX0, "isKnown", "(I)Z"⟩
abbrev cX0_isGiven : ByteArray := prog_1_method_14_code
def yX0_isGiven : MethodName := ⟨RX0, "isGiven", "(I)Z"⟩
abbrev cX0_isMissing : ByteArray := prog_1_method_15_code
def yX0_isMissing : MethodName := ⟨RX0, "isMissing", "(I)Z"⟩
abbrev cX0_firstMissingFrom : ByteArray := prog_1_method_16_code
def yX0_firstMissingFrom : MethodName := ⟨RX0, "firstMissingFrom", "(I)I"⟩
abbrev cX0_countGiven : ByteArray := prog_1_method_17_code
def yX0_countGiven : MethodName := ⟨RX0, "countGiven", "()I"⟩
abbrev cX0_countMissing : ByteArray := prog_1_method_18_code
def yX0_countMissing : MethodName := ⟨RX0, "countMissing", "()I"⟩
abbrev cX0_countGivingsInVain : ByteArray := prog_1_method_19_code
def yX0_countGivingsInVain : MethodName := ⟨RX0, "countGivingsInVain", "()I"⟩
def RX1 : String := "ReferredNamesModel"
def TX1 : u_T := fun k => match k with
  | 0 => ("ReferredNamesModel", "hand", "[I", true)
  | 1 => ("ReferredNamesModel", "inHand", "I", false)
  | 2 => ("ReferredNamesModel", "bytes", "[I", true)
  | 3 => ("ReferredNamesModel", "sizes", "[I", true)
  | 4 => ("ReferredNamesModel", "given", "[I", true)
  | 5 => ("ReferredNamesModel", "referred", "[I", true)
  | _ => ("ReferredNamesModel", "known", "I", false)
def tyX1 : Nat → FieldType := fun k => match k with
  | 0 => .array .int
  | 1 => .int
  | 2 => .array .int
  | 3 => .array .int
  | 4 => .array .int
  | 5 => .array .int
  | _ => .int
abbrev wsX10 : List Cond := u_ws RX1 TX1 7
theorem nmX1 : ∀ a, a < 7 → ∀ b, b < 7 → a ≠ b → (TX1 a).2.1 ≠ (TX1 b).2.1 := by decide +kernel
theorem tyX1_ok : ∀ k, k < 7 → parseFieldDescriptor (TX1 k).2.2.1 = some (tyX1 k) := by decide +kernel
abbrev cX1_init : ByteArray := prog_3_method_1_code
def yX1_init : MethodName := ⟨RX1, "<init>", "()V"⟩
abbrev cX1_put : ByteArray := prog_3_method_2_code
def yX1_put : MethodName := ⟨RX1, "put", "(JI)Z"⟩
abbrev cX1_place : ByteArray := prog_3_method_3_code
def yX1_place : MethodName := ⟨RX1, "place", "()I"⟩
abbrev cX1_known : ByteArray := prog_3_method_4_code
def yX1_known : MethodName := ⟨RX1, "known", "()I"⟩
abbrev cX1_give : ByteArray := prog_3_method_5_code
def yX1_give : MethodName := ⟨RX1, "give", "()I"⟩
abbrev cX1_refer : ByteArray := prog_3_method_6_code
def yX1_refer : MethodName := ⟨RX1, "refer", "()I"⟩
abbrev cX1_find : ByteArray := prog_3_method_7_code
def yX1_find : MethodName := ⟨RX1, "find", "()I"⟩
abbrev cX1_isMissing : ByteArray := prog_3_method_8_code
def yX1_isMissing : MethodName := ⟨RX1, "isMissing", "(I)Z"⟩
abbrev cX1_missingFrom : ByteArray := prog_3_method_9_code
def yX1_missingFrom : MethodName := ⟨RX1, "missingFrom", "(I)I"⟩
abbrev cX1_look : ByteArray := prog_3_method_10_code
def yX1_look : MethodName := ⟨RX1, "look", "(II)I"⟩
abbrev cX1_byteOf : ByteArray := prog_3_method_11_code
def yX1_byteOf : MethodName := ⟨RX1, "byteOf", "(II)I"⟩
abbrev cX1_count : ByteArray := prog_3_method_12_code
def yX1_count : MethodName := ⟨RX1, "count", "(I)I"⟩
abbrev cX1_clear : ByteArray := prog_3_method_13_code
def yX1_clear : MethodName := ⟨RX1, "clear", "()I"⟩
def RL : String := "ReferredNamesLaw"
abbrev cL_law : ByteArray := code
def yL_law : MethodName := ⟨RL, "law", "([I)Z"⟩
def wsX0_init : List Cond := .code yX0_init cX0_init 1 none :: ([.methodLink RX0 1 objectInit, .instanceMethod objectInit, .code objectInit ⟨#[0xb1]⟩ 1 none, .arrayClass .byte, .fieldLink RX0 9 "ReferredNames" "hand" "[B", .fieldLink RX0 13 "ReferredNames" "handLength" "I", .fieldLink RX0 17 "ReferredNames" "bytes" "[B", .arrayClass .int, .fieldLink RX0 20 "ReferredNames" "lengths" "[I", .fieldLink RX0 24 "ReferredNames" "givings" "[I", .fieldLink RX0 27 "ReferredNames" "referrals" "[I", .fieldLink RX0 30 "ReferredNames" "known" "I"] ++ wsX00)
def wsX0_put : List Cond := .code yX0_put cX0_put 5 (some .boolean) :: ([.fieldLink RX0 13 "ReferredNames" "handLength" "I", .fieldLink RX0 9 "ReferredNames" "hand" "[B"] ++ wsX00)
def wsX0_isInHand : List Cond := .code yX0_isInHand cX0_isInHand 3 (some .boolean) :: ([.fieldLink RX0 20 "ReferredNames" "lengths" "[I", .fieldLink RX0 13 "ReferredNames" "handLength" "I", .fieldLink RX0 17 "ReferredNames" "bytes" "[B", .fieldLink RX0 9 "ReferredNames" "hand" "[B"] ++ wsX00)
def wsX0_find : List Cond := .code yX0_find cX0_find 2 (some .int) :: ([.fieldLink RX0 30 "ReferredNames" "known" "I", .methodLink RX0 41 yX0_isInHand, .instanceMethod yX0_isInHand, .selects RX0 yX0_isInHand yX0_isInHand, .initialized RX0, .code yX0_isInHand cX0_isInHand 3 (some .boolean), .fieldLink RX0 20 "ReferredNames" "lengths" "[I", .fieldLink RX0 13 "ReferredNames" "handLength" "I", .fieldLink RX0 17 "ReferredNames" "bytes" "[B", .fieldLink RX0 9 "ReferredNames" "hand" "[B"] ++ wsX00)
def wsX0_learnHand : List Cond := .code yX0_learnHand cX0_learnHand 3 (some .int) :: ([.fieldLink RX0 30 "ReferredNames" "known" "I", .fieldLink RX0 13 "ReferredNames" "handLength" "I", .fieldLink RX0 17 "ReferredNames" "bytes" "[B", .fieldLink RX0 9 "ReferredNames" "hand" "[B", .fieldLink RX0 20 "ReferredNames" "lengths" "[I", .fieldLink RX0 24 "ReferredNames" "givings" "[I", .fieldLink RX0 27 "ReferredNames" "referrals" "[I"] ++ wsX00)
def wsX0_takeHand : List Cond := .code yX0_takeHand cX0_takeHand 2 (some .int) :: ([.fieldLink RX0 13 "ReferredNames" "handLength" "I", .methodLink RX0 60 yX0_find, .instanceMethod yX0_find, .selects RX0 yX0_find yX0_find, .initialized RX0, .code yX0_find cX0_find 2 (some .int), .fieldLink RX0 30 "ReferredNames" "known" "I", .methodLink RX0 41 yX0_isInHand, .instanceMethod yX0_isInHand, .selects RX0 yX0_isInHand yX0_isInHand, .code yX0_isInHand cX0_isInHand 3 (some .boolean), .fieldLink RX0 20 "ReferredNames" "lengths" "[I", .fieldLink RX0 17 "ReferredNames" "bytes" "[B", .fieldLink RX0 9 "ReferredNames" "hand" "[B", .methodLink RX0 63 yX0_learnHand, .instanceMethod yX0_learnHand, .selects RX0 yX0_learnHand yX0_learnHand, .code yX0_learnHand cX0_learnHand 3 (some .int), .fieldLink RX0 24 "ReferredNames" "givings" "[I", .fieldLink RX0 27 "ReferredNames" "referrals" "[I"] ++ wsX00)
def wsX0_isGiven : List Cond := .code yX0_isGiven cX0_isGiven 2 (some .boolean) :: ([.fieldLink RX0 24 "ReferredNames" "givings" "[I"] ++ wsX00)
def wsX0_give_r1 : List Cond := [Cond.fieldLink RX0 13 "ReferredNames" "handLength" "I", Cond.fieldLink RX0 24 "ReferredNames" "givings" "[I", Cond.methodLink RX0 33 yX0_takeHand, Cond.instanceMethod yX0_takeHand, Cond.selects RX0 yX0_takeHand yX0_takeHand, Cond.initialized RX0, Cond.code yX0_takeHand cX0_takeHand 2 (some .int), Cond.methodLink RX0 60 yX0_find, Cond.instanceMethod yX0_find, Cond.selects RX0 yX0_find yX0_find, Cond.code yX0_find cX0_find 2 (some .int), Cond.fieldLink RX0 30 "ReferredNames" "known" "I", Cond.methodLink RX0 41 yX0_isInHand, Cond.instanceMethod yX0_isInHand, Cond.selects RX0 yX0_isInHand yX0_isInHand, Cond.code yX0_isInHand cX0_isInHand 3 (some .boolean), Cond.fieldLink RX0 20 "ReferredNames" "lengths" "[I", Cond.fieldLink RX0 17 "ReferredNames" "bytes" "[B", Cond.fieldLink RX0 9 "ReferredNames" "hand" "[B", Cond.methodLink RX0 63 yX0_learnHand, Cond.instanceMethod yX0_learnHand, Cond.selects RX0 yX0_learnHand yX0_learnHand, Cond.code yX0_learnHand cX0_learnHand 3 (some .int), Cond.fieldLink RX0 27 "ReferredNames" "referrals" "[I"]
def wsX0_give_r2 : List Cond := [Cond.methodLink RX0 37 yX0_isGiven, Cond.instanceMethod yX0_isGiven, Cond.selects RX0 yX0_isGiven yX0_isGiven, Cond.code yX0_isGiven cX0_isGiven 2 (some .boolean)]
def wsX0_give : List Cond := .code yX0_give cX0_give 3 (some .int) :: ((wsX0_give_r1 ++ wsX0_give_r2) ++ wsX00)
def wsX0_refer : List Cond := .code yX0_refer cX0_refer 2 (some .int) :: ([.fieldLink RX0 13 "ReferredNames" "handLength" "I", .fieldLink RX0 27 "ReferredNames" "referrals" "[I", .methodLink RX0 33 yX0_takeHand, .instanceMethod yX0_takeHand, .selects RX0 yX0_takeHand yX0_takeHand, .initialized RX0, .code yX0_takeHand cX0_takeHand 2 (some .int), .methodLink RX0 60 yX0_find, .instanceMethod yX0_find, .selects RX0 yX0_find yX0_find, .code yX0_find cX0_find 2 (some .int), .fieldLink RX0 30 "ReferredNames" "known" "I", .methodLink RX0 41 yX0_isInHand, .instanceMethod yX0_isInHand, .selects RX0 yX0_isInHand yX0_isInHand, .code yX0_isInHand cX0_isInHand 3 (some .boolean), .fieldLink RX0 20 "ReferredNames" "lengths" "[I", .fieldLink RX0 17 "ReferredNames" "bytes" "[B", .fieldLink RX0 9 "ReferredNames" "hand" "[B", .methodLink RX0 63 yX0_learnHand, .instanceMethod yX0_learnHand, .selects RX0 yX0_learnHand yX0_learnHand, .code yX0_learnHand cX0_learnHand 3 (some .int), .fieldLink RX0 24 "ReferredNames" "givings" "[I"] ++ wsX00)
def wsX0_isKnown : List Cond := .code yX0_isKnown cX0_isKnown 2 (some .boolean) :: ([.fieldLink RX0 30 "ReferredNames" "known" "I"] ++ wsX00)
def wsX0_isMissing : List Cond := .code yX0_isMissing cX0_isMissing 2 (some .boolean) :: ([.fieldLink RX0 27 "ReferredNames" "referrals" "[I", .methodLink RX0 37 yX0_isGiven, .instanceMethod yX0_isGiven, .selects RX0 yX0_isGiven yX0_isGiven, .initialized RX0, .code yX0_isGiven cX0_isGiven 2 (some .boolean), .fieldLink RX0 24 "ReferredNames" "givings" "[I"] ++ wsX00)
def wsX0_firstMissingFrom : List Cond := .code yX0_firstMissingFrom cX0_firstMissingFrom 3 (some .int) :: ([.fieldLink RX0 30 "ReferredNames" "known" "I", .methodLink RX0 66 yX0_isMissing, .instanceMethod yX0_isMissing, .selects RX0 yX0_isMissing yX0_isMissing, .initialized RX0, .code yX0_isMissing cX0_isMissing 2 (some .boolean), .fieldLink RX0 27 "ReferredNames" "referrals" "[I", .methodLink RX0 37 yX0_isGiven, .instanceMethod yX0_isGiven, .selects RX0 yX0_isGiven yX0_isGiven, .code yX0_isGiven cX0_isGiven 2 (some .boolean), .fieldLink RX0 24 "ReferredNames" "givings" "[I"] ++ wsX00)
def wsX0_look : List Cond := .code yX0_look cX0_look 3 (some .int) :: ([.fieldLink RX0 24 "ReferredNames" "givings" "[I", .fieldLink RX0 27 "ReferredNames" "referrals" "[I", .fieldLink RX0 20 "ReferredNames" "lengths" "[I", .methodLink RX0 44 yX0_isKnown, .instanceMethod yX0_isKnown, .selects RX0 yX0_isKnown yX0_isKnown, .initialized RX0, .code yX0_isKnown cX0_isKnown 2 (some .boolean), .fieldLink RX0 30 "ReferredNames" "known" "I", .methodLink RX0 47 yX0_firstMissingFrom, .instanceMethod yX0_firstMissingFrom, .selects RX0 yX0_firstMissingFrom yX0_firstMissingFrom, .code yX0_firstMissingFrom cX0_firstMissingFrom 3 (some .int), .methodLink RX0 66 yX0_isMissing, .instanceMethod yX0_isMissing, .selects RX0 yX0_isMissing yX0_isMissing, .code yX0_isMissing cX0_isMissing 2 (some .boolean), .methodLink RX0 37 yX0_isGiven, .instanceMethod yX0_isGiven, .selects RX0 yX0_isGiven yX0_isGiven, .code yX0_isGiven cX0_isGiven 2 (some .boolean)] ++ wsX00)
def wsX0_byteOf : List Cond := .code yX0_byteOf cX0_byteOf 3 (some .int) :: ([.fieldLink RX0 20 "ReferredNames" "lengths" "[I", .fieldLink RX0 17 "ReferredNames" "bytes" "[B", .methodLink RX0 44 yX0_isKnown, .instanceMethod yX0_isKnown, .selects RX0 yX0_isKnown yX0_isKnown, .initialized RX0, .code yX0_isKnown cX0_isKnown 2 (some .boolean), .fieldLink RX0 30 "ReferredNames" "known" "I"] ++ wsX00)
def wsX0_countGiven : List Cond := .code yX0_countGiven cX0_countGiven 3 (some .int) :: ([.fieldLink RX0 30 "ReferredNames" "known" "I", .methodLink RX0 37 yX0_isGiven, .instanceMethod yX0_isGiven, .selects RX0 yX0_isGiven yX0_isGiven, .initialized RX0, .code yX0_isGiven cX0_isGiven 2 (some .boolean), .fieldLink RX0 24 "ReferredNames" "givings" "[I"] ++ wsX00)
def wsX0_countMissing : List Cond := .code yX0_countMissing cX0_countMissing 3 (some .int) :: ([.fieldLink RX0 30 "ReferredNames" "known" "I", .methodLink RX0 66 yX0_isMissing, .instanceMethod yX0_isMissing, .selects RX0 yX0_isMissing yX0_isMissing, .initialized RX0, .code yX0_isMissing cX0_isMissing 2 (some .boolean), .fieldLink RX0 27 "ReferredNames" "referrals" "[I", .methodLink RX0 37 yX0_isGiven, .instanceMethod yX0_isGiven, .selects RX0 yX0_isGiven yX0_isGiven, .code yX0_isGiven cX0_isGiven 2 (some .boolean), .fieldLink RX0 24 "ReferredNames" "givings" "[I"] ++ wsX00)
def wsX0_countGivingsInVain : List Cond := .code yX0_countGivingsInVain cX0_countGivingsInVain 3 (some .int) :: ([.fieldLink RX0 30 "ReferredNames" "known" "I", .fieldLink RX0 24 "ReferredNames" "givings" "[I", .methodLink RX0 37 yX0_isGiven, .instanceMethod yX0_isGiven, .selects RX0 yX0_isGiven yX0_isGiven, .initialized RX0, .code yX0_isGiven cX0_isGiven 2 (some .boolean)] ++ wsX00)
def wsX0_count_r1 : List Cond := [Cond.fieldLink RX0 30 "ReferredNames" "known" "I", Cond.fieldLink RX0 13 "ReferredNames" "handLength" "I", Cond.methodLink RX0 51 yX0_countGiven, Cond.instanceMethod yX0_countGiven, Cond.selects RX0 yX0_countGiven yX0_countGiven, Cond.initialized RX0, Cond.code yX0_countGiven cX0_countGiven 3 (some .int), Cond.methodLink RX0 37 yX0_isGiven, Cond.instanceMethod yX0_isGiven, Cond.selects RX0 yX0_isGiven yX0_isGiven, Cond.code yX0_isGiven cX0_isGiven 2 (some .boolean), Cond.fieldLink RX0 24 "ReferredNames" "givings" "[I", Cond.methodLink RX0 54 yX0_countMissing, Cond.instanceMethod yX0_countMissing, Cond.selects RX0 yX0_countMissing yX0_countMissing, Cond.code yX0_countMissing cX0_countMissing 3 (some .int), Cond.methodLink RX0 66 yX0_isMissing, Cond.instanceMethod yX0_isMissing, Cond.selects RX0 yX0_isMissing yX0_isMissing, Cond.code yX0_isMissing cX0_isMissing 2 (some .boolean), Cond.fieldLink RX0 27 "ReferredNames" "referrals" "[I", Cond.methodLink RX0 57 yX0_countGivingsInVain, Cond.instanceMethod yX0_countGivingsInVain, Cond.selects RX0 yX0_countGivingsInVain yX0_countGivingsInVain]
def wsX0_count_r2 : List Cond := [Cond.code yX0_countGivingsInVain cX0_countGivingsInVain 3 (some .int), Cond.methodLink RX0 47 yX0_firstMissingFrom, Cond.instanceMethod yX0_firstMissingFrom, Cond.selects RX0 yX0_firstMissingFrom yX0_firstMissingFrom, Cond.code yX0_firstMissingFrom cX0_firstMissingFrom 3 (some .int)]
def wsX0_count : List Cond := .code yX0_count cX0_count 2 (some .int) :: ((wsX0_count_r1 ++ wsX0_count_r2) ++ wsX00)
def wsX0_clear : List Cond := .code yX0_clear cX0_clear 2 (some .int) :: ([.fieldLink RX0 30 "ReferredNames" "known" "I", .fieldLink RX0 13 "ReferredNames" "handLength" "I"] ++ wsX00)
def wsX1_init : List Cond := .code yX1_init cX1_init 1 none :: ([.methodLink RX1 1 objectInit, .instanceMethod objectInit, .code objectInit ⟨#[0xb1]⟩ 1 none, .arrayClass .int, .fieldLink RX1 7 "ReferredNamesModel" "hand" "[I", .fieldLink RX1 13 "ReferredNamesModel" "bytes" "[I", .fieldLink RX1 16 "ReferredNamesModel" "sizes" "[I", .fieldLink RX1 19 "ReferredNamesModel" "given" "[I", .fieldLink RX1 22 "ReferredNamesModel" "referred" "[I"] ++ wsX10)
def wsX1_put : List Cond := .code yX1_put cX1_put 8 (some .boolean) :: ([.fieldLink RX1 25 "ReferredNamesModel" "inHand" "I", .fieldLink RX1 7 "ReferredNamesModel" "hand" "[I", .constantLong RX1 29 (255)] ++ wsX10)
def wsX1_place : List Cond := .code yX1_place cX1_place 5 (some .int) :: ([.fieldLink RX1 31 "ReferredNamesModel" "known" "I", .fieldLink RX1 16 "ReferredNamesModel" "sizes" "[I", .fieldLink RX1 25 "ReferredNamesModel" "inHand" "I", .fieldLink RX1 13 "ReferredNamesModel" "bytes" "[I", .fieldLink RX1 7 "ReferredNamesModel" "hand" "[I"] ++ wsX10)
def wsX1_known : List Cond := .code yX1_known cX1_known 3 (some .int) :: ([.fieldLink RX1 31 "ReferredNamesModel" "known" "I", .fieldLink RX1 16 "ReferredNamesModel" "sizes" "[I", .fieldLink RX1 25 "ReferredNamesModel" "inHand" "I", .fieldLink RX1 13 "ReferredNamesModel" "bytes" "[I", .fieldLink RX1 7 "ReferredNamesModel" "hand" "[I", .fieldLink RX1 19 "ReferredNamesModel" "given" "[I", .fieldLink RX1 22 "ReferredNamesModel" "referred" "[I", .methodLink RX1 34 yX1_place, .instanceMethod yX1_place, .selects RX1 yX1_place yX1_place, .initialized RX1, .code yX1_place cX1_place 5 (some .int)] ++ wsX10)
def wsX1_give : List Cond := .code yX1_give cX1_give 2 (some .int) :: ([.fieldLink RX1 25 "ReferredNamesModel" "inHand" "I", .fieldLink RX1 19 "ReferredNamesModel" "given" "[I", .methodLink RX1 38 yX1_known, .instanceMethod yX1_known, .selects RX1 yX1_known yX1_known, .initialized RX1, .code yX1_known cX1_known 3 (some .int), .fieldLink RX1 31 "ReferredNamesModel" "known" "I", .fieldLink RX1 16 "ReferredNamesModel" "sizes" "[I", .fieldLink RX1 13 "ReferredNamesModel" "bytes" "[I", .fieldLink RX1 7 "ReferredNamesModel" "hand" "[I", .fieldLink RX1 22 "ReferredNamesModel" "referred" "[I", .methodLink RX1 34 yX1_place, .instanceMethod yX1_place, .selects RX1 yX1_place yX1_place, .code yX1_place cX1_place 5 (some .int)] ++ wsX10)
def wsX1_refer : List Cond := .code yX1_refer cX1_refer 2 (some .int) :: ([.fieldLink RX1 25 "ReferredNamesModel" "inHand" "I", .fieldLink RX1 22 "ReferredNamesModel" "referred" "[I", .methodLink RX1 38 yX1_known, .instanceMethod yX1_known, .selects RX1 yX1_known yX1_known, .initialized RX1, .code yX1_known cX1_known 3 (some .int), .fieldLink RX1 31 "ReferredNamesModel" "known" "I", .fieldLink RX1 16 "ReferredNamesModel" "sizes" "[I", .fieldLink RX1 13 "ReferredNamesModel" "bytes" "[I", .fieldLink RX1 7 "ReferredNamesModel" "hand" "[I", .fieldLink RX1 19 "ReferredNamesModel" "given" "[I", .methodLink RX1 34 yX1_place, .instanceMethod yX1_place, .selects RX1 yX1_place yX1_place, .code yX1_place cX1_place 5 (some .int)] ++ wsX10)
def wsX1_find : List Cond := .code yX1_find cX1_find 1 (some .int) :: ([.fieldLink RX1 25 "ReferredNamesModel" "inHand" "I", .methodLink RX1 34 yX1_place, .instanceMethod yX1_place, .selects RX1 yX1_place yX1_place, .initialized RX1, .code yX1_place cX1_place 5 (some .int), .fieldLink RX1 31 "ReferredNamesModel" "known" "I", .fieldLink RX1 16 "ReferredNamesModel" "sizes" "[I", .fieldLink RX1 13 "ReferredNamesModel" "bytes" "[I", .fieldLink RX1 7 "ReferredNamesModel" "hand" "[I"] ++ wsX10)
def wsX1_isMissing : List Cond := .code yX1_isMissing cX1_isMissing 2 (some .boolean) :: ([.fieldLink RX1 22 "ReferredNamesModel" "referred" "[I", .fieldLink RX1 19 "ReferredNamesModel" "given" "[I"] ++ wsX10)
def wsX1_missingFrom : List Cond := .code yX1_missingFrom cX1_missingFrom 4 (some .int) :: ([.fieldLink RX1 31 "ReferredNamesModel" "known" "I", .methodLink RX1 40 yX1_isMissing, .instanceMethod yX1_isMissing, .selects RX1 yX1_isMissing yX1_isMissing, .initialized RX1, .code yX1_isMissing cX1_isMissing 2 (some .boolean), .fieldLink RX1 22 "ReferredNamesModel" "referred" "[I", .fieldLink RX1 19 "ReferredNamesModel" "given" "[I"] ++ wsX10)
def wsX1_look : List Cond := .code yX1_look cX1_look 3 (some .int) :: ([.fieldLink RX1 31 "ReferredNamesModel" "known" "I", .fieldLink RX1 19 "ReferredNamesModel" "given" "[I", .fieldLink RX1 22 "ReferredNamesModel" "referred" "[I", .fieldLink RX1 16 "ReferredNamesModel" "sizes" "[I", .methodLink RX1 44 yX1_missingFrom, .instanceMethod yX1_missingFrom, .selects RX1 yX1_missingFrom yX1_missingFrom, .initialized RX1, .code yX1_missingFrom cX1_missingFrom 4 (some .int), .methodLink RX1 40 yX1_isMissing, .instanceMethod yX1_isMissing, .selects RX1 yX1_isMissing yX1_isMissing, .code yX1_isMissing cX1_isMissing 2 (some .boolean)] ++ wsX10)
def wsX1_byteOf : List Cond := .code yX1_byteOf cX1_byteOf 3 (some .int) :: ([.fieldLink RX1 31 "ReferredNamesModel" "known" "I", .fieldLink RX1 16 "ReferredNamesModel" "sizes" "[I", .fieldLink RX1 13 "ReferredNamesModel" "bytes" "[I"] ++ wsX10)
def wsX1_count : List Cond := .code yX1_count cX1_count 6 (some .int) :: ([.fieldLink RX1 31 "ReferredNamesModel" "known" "I", .fieldLink RX1 19 "ReferredNamesModel" "given" "[I", .fieldLink RX1 25 "ReferredNamesModel" "inHand" "I", .methodLink RX1 40 yX1_isMissing, .instanceMethod yX1_isMissing, .selects RX1 yX1_isMissing yX1_isMissing, .initialized RX1, .code yX1_isMissing cX1_isMissing 2 (some .boolean), .fieldLink RX1 22 "ReferredNamesModel" "referred" "[I", .methodLink RX1 44 yX1_missingFrom, .instanceMethod yX1_missingFrom, .selects RX1 yX1_missingFrom yX1_missingFrom, .code yX1_missingFrom cX1_missingFrom 4 (some .int)] ++ wsX10)
def wsX1_clear : List Cond := .code yX1_clear cX1_clear 2 (some .int) :: ([.fieldLink RX1 31 "ReferredNamesModel" "known" "I", .fieldLink RX1 25 "ReferredNamesModel" "inHand" "I"] ++ wsX10)
def wsL_law_r1 : List Cond := [Cond.classLink RL 7 RX0, Cond.instantiable RX0 7, Cond.initialized RX0, Cond.classLink RL 10 RX1, Cond.instantiable RX1 7, Cond.initialized RX1, Cond.constantLong RL 13 (4294967295), Cond.methodLink RL 9 yX0_init, Cond.instanceMethod yX0_init, Cond.code yX0_init cX0_init 1 none, Cond.methodLink RX0 1 objectInit, Cond.instanceMethod objectInit, Cond.code objectInit ⟨#[0xb1]⟩ 1 none, Cond.arrayClass .byte, Cond.fieldLink RX0 9 "ReferredNames" "hand" "[B", Cond.fieldLink RX0 13 "ReferredNames" "handLength" "I", Cond.fieldLink RX0 17 "ReferredNames" "bytes" "[B", Cond.arrayClass .int, Cond.fieldLink RX0 20 "ReferredNames" "lengths" "[I", Cond.fieldLink RX0 24 "ReferredNames" "givings" "[I", Cond.fieldLink RX0 27 "ReferredNames" "referrals" "[I", Cond.fieldLink RX0 30 "ReferredNames" "known" "I", Cond.methodLink RL 12 yX1_init, Cond.instanceMethod yX1_init]
def wsL_law_r2 : List Cond := [Cond.code yX1_init cX1_init 1 none, Cond.methodLink RX1 1 objectInit, Cond.fieldLink RX1 7 "ReferredNamesModel" "hand" "[I", Cond.fieldLink RX1 13 "ReferredNamesModel" "bytes" "[I", Cond.fieldLink RX1 16 "ReferredNamesModel" "sizes" "[I", Cond.fieldLink RX1 19 "ReferredNamesModel" "given" "[I", Cond.fieldLink RX1 22 "ReferredNamesModel" "referred" "[I", Cond.methodLink RL 15 yX0_put, Cond.instanceMethod yX0_put, Cond.selects RX0 yX0_put yX0_put, Cond.code yX0_put cX0_put 5 (some .boolean), Cond.methodLink RL 19 yX1_put, Cond.instanceMethod yX1_put, Cond.selects RX1 yX1_put yX1_put, Cond.code yX1_put cX1_put 8 (some .boolean), Cond.fieldLink RX1 25 "ReferredNamesModel" "inHand" "I", Cond.constantLong RX1 29 (255), Cond.methodLink RL 20 yX0_give, Cond.instanceMethod yX0_give, Cond.selects RX0 yX0_give yX0_give, Cond.code yX0_give cX0_give 3 (some .int), Cond.methodLink RX0 33 yX0_takeHand, Cond.instanceMethod yX0_takeHand, Cond.selects RX0 yX0_takeHand yX0_takeHand]
def wsL_law_r3 : List Cond := [Cond.code yX0_takeHand cX0_takeHand 2 (some .int), Cond.methodLink RX0 60 yX0_find, Cond.instanceMethod yX0_find, Cond.selects RX0 yX0_find yX0_find, Cond.code yX0_find cX0_find 2 (some .int), Cond.methodLink RX0 41 yX0_isInHand, Cond.instanceMethod yX0_isInHand, Cond.selects RX0 yX0_isInHand yX0_isInHand, Cond.code yX0_isInHand cX0_isInHand 3 (some .boolean), Cond.methodLink RX0 63 yX0_learnHand, Cond.instanceMethod yX0_learnHand, Cond.selects RX0 yX0_learnHand yX0_learnHand, Cond.code yX0_learnHand cX0_learnHand 3 (some .int), Cond.methodLink RX0 37 yX0_isGiven, Cond.instanceMethod yX0_isGiven, Cond.selects RX0 yX0_isGiven yX0_isGiven, Cond.code yX0_isGiven cX0_isGiven 2 (some .boolean), Cond.methodLink RL 24 yX1_give, Cond.instanceMethod yX1_give, Cond.selects RX1 yX1_give yX1_give, Cond.code yX1_give cX1_give 2 (some .int), Cond.methodLink RX1 38 yX1_known, Cond.instanceMethod yX1_known, Cond.selects RX1 yX1_known yX1_known]
def wsL_law_r4 : List Cond := [Cond.code yX1_known cX1_known 3 (some .int), Cond.fieldLink RX1 31 "ReferredNamesModel" "known" "I", Cond.methodLink RX1 34 yX1_place, Cond.instanceMethod yX1_place, Cond.selects RX1 yX1_place yX1_place, Cond.code yX1_place cX1_place 5 (some .int), Cond.methodLink RL 25 yX0_refer, Cond.instanceMethod yX0_refer, Cond.selects RX0 yX0_refer yX0_refer, Cond.code yX0_refer cX0_refer 2 (some .int), Cond.methodLink RL 28 yX1_refer, Cond.instanceMethod yX1_refer, Cond.selects RX1 yX1_refer yX1_refer, Cond.code yX1_refer cX1_refer 2 (some .int), Cond.methodLink RL 29 yX0_find, Cond.methodLink RL 32 yX1_find, Cond.instanceMethod yX1_find, Cond.selects RX1 yX1_find yX1_find, Cond.code yX1_find cX1_find 1 (some .int), Cond.methodLink RL 33 yX0_look, Cond.instanceMethod yX0_look, Cond.selects RX0 yX0_look yX0_look, Cond.code yX0_look cX0_look 3 (some .int), Cond.methodLink RX0 44 yX0_isKnown]
def wsL_law_r5 : List Cond := [Cond.instanceMethod yX0_isKnown, Cond.selects RX0 yX0_isKnown yX0_isKnown, Cond.code yX0_isKnown cX0_isKnown 2 (some .boolean), Cond.methodLink RX0 47 yX0_firstMissingFrom, Cond.instanceMethod yX0_firstMissingFrom, Cond.selects RX0 yX0_firstMissingFrom yX0_firstMissingFrom, Cond.code yX0_firstMissingFrom cX0_firstMissingFrom 3 (some .int), Cond.methodLink RX0 66 yX0_isMissing, Cond.instanceMethod yX0_isMissing, Cond.selects RX0 yX0_isMissing yX0_isMissing, Cond.code yX0_isMissing cX0_isMissing 2 (some .boolean), Cond.methodLink RL 37 yX1_look, Cond.instanceMethod yX1_look, Cond.selects RX1 yX1_look yX1_look, Cond.code yX1_look cX1_look 3 (some .int), Cond.methodLink RX1 44 yX1_missingFrom, Cond.instanceMethod yX1_missingFrom, Cond.selects RX1 yX1_missingFrom yX1_missingFrom, Cond.code yX1_missingFrom cX1_missingFrom 4 (some .int), Cond.methodLink RX1 40 yX1_isMissing, Cond.instanceMethod yX1_isMissing, Cond.selects RX1 yX1_isMissing yX1_isMissing, Cond.code yX1_isMissing cX1_isMissing 2 (some .boolean), Cond.methodLink RL 38 yX0_byteOf]
def wsL_law_r6 : List Cond := [Cond.instanceMethod yX0_byteOf, Cond.selects RX0 yX0_byteOf yX0_byteOf, Cond.code yX0_byteOf cX0_byteOf 3 (some .int), Cond.methodLink RL 41 yX1_byteOf, Cond.instanceMethod yX1_byteOf, Cond.selects RX1 yX1_byteOf yX1_byteOf, Cond.code yX1_byteOf cX1_byteOf 3 (some .int), Cond.methodLink RL 42 yX0_count, Cond.instanceMethod yX0_count, Cond.selects RX0 yX0_count yX0_count, Cond.code yX0_count cX0_count 2 (some .int), Cond.methodLink RX0 51 yX0_countGiven, Cond.instanceMethod yX0_countGiven, Cond.selects RX0 yX0_countGiven yX0_countGiven, Cond.code yX0_countGiven cX0_countGiven 3 (some .int), Cond.methodLink RX0 54 yX0_countMissing, Cond.instanceMethod yX0_countMissing, Cond.selects RX0 yX0_countMissing yX0_countMissing, Cond.code yX0_countMissing cX0_countMissing 3 (some .int), Cond.methodLink RX0 57 yX0_countGivingsInVain, Cond.instanceMethod yX0_countGivingsInVain, Cond.selects RX0 yX0_countGivingsInVain yX0_countGivingsInVain, Cond.code yX0_countGivingsInVain cX0_countGivingsInVain 3 (some .int), Cond.methodLink RL 46 yX1_count]
def wsL_law_r7 : List Cond := [Cond.instanceMethod yX1_count, Cond.selects RX1 yX1_count yX1_count, Cond.code yX1_count cX1_count 6 (some .int), Cond.methodLink RL 47 yX0_clear, Cond.instanceMethod yX0_clear, Cond.selects RX0 yX0_clear yX0_clear, Cond.code yX0_clear cX0_clear 2 (some .int), Cond.methodLink RL 50 yX1_clear, Cond.instanceMethod yX1_clear, Cond.selects RX1 yX1_clear yX1_clear, Cond.code yX1_clear cX1_clear 2 (some .int)]
def wsL_law : List Cond := (wsL_law_r1 ++ (wsL_law_r2 ++ (wsL_law_r3 ++ (wsL_law_r4 ++ (wsL_law_r5 ++ (wsL_law_r6 ++ wsL_law_r7)))))) ++ wsX00 ++ wsX10 ++ ([] : List Cond)
set_option maxRecDepth 20000 in
theorem wsL_law_in : ∀ w ∈ wsL_law, w ∈ lw_tbl := fun w h => (goodIn_p wsL_law [21, 24, 126, 52, 153, 56, 60, 64, 68, 72, 76, 158, 162, 166, 80, 170, 174, 85, 89, 93, 97, 178, 182, 186, 101, 190, 105, 109, 113, 117, 194, 121, 198] (by decide +kernel) (by decide +kernel) w h).1
theorem inlX0 : ∀ w ∈ wsX00, w ∈ wsL_law := fun _ h => List.mem_append_left _ (List.mem_append_left _ (List.mem_append_right _ h))
theorem inX0 : ∀ w ∈ wsX00, w ∈ lw_tbl := fun w h => wsL_law_in w (inlX0 w h)
theorem inlX1 : ∀ w ∈ wsX10, w ∈ wsL_law := fun _ h => List.mem_append_left _ (List.mem_append_right _ h)
theorem inX1 : ∀ w ∈ wsX10, w ∈ lw_tbl := fun w h => wsL_law_in w (inlX1 w h)
theorem dX0_init_0 : decode cX0_init 0 = .ok (.aload_n 0, 1) := by decide +kernel
theorem dX0_init_1 : decode cX0_init 1 = .ok (.invokespecial 1, 3) := by decide +kernel
theorem dX0_init_4 : decode cX0_init 4 = .ok (.aload_n 0, 1) := by decide +kernel
theorem dX0_init_5 : decode cX0_init 5 = .ok (.bipush 60, 2) := by decide +kernel
theorem dX0_init_7 : decode cX0_init 7 = .ok (.newarray .byte, 2) := by decide +kernel
theorem dX0_init_9 : decode cX0_init 9 = .ok (.putfield 9, 3) := by decide +kernel
theorem dX0_init_12 : decode cX0_init 12 = .ok (.aload_n 0, 1) := by decide +kernel
theorem dX0_init_13 : decode cX0_init 13 = .ok (.iconst 0, 1) := by decide +kernel
theorem dX0_init_14 : decode cX0_init 14 = .ok (.putfield 13, 3) := by decide +kernel
theorem dX0_init_17 : decode cX0_init 17 = .ok (.aload_n 0, 1) := by decide +kernel
theorem dX0_init_18 : decode cX0_init 18 = .ok (.sipush 12000, 3) := by decide +kernel
theorem dX0_init_21 : decode cX0_init 21 = .ok (.newarray .byte, 2) := by decide +kernel
theorem dX0_init_23 : decode cX0_init 23 = .ok (.putfield 17, 3) := by decide +kernel
theorem dX0_init_26 : decode cX0_init 26 = .ok (.aload_n 0, 1) := by decide +kernel
theorem dX0_init_27 : decode cX0_init 27 = .ok (.sipush 200, 3) := by decide +kernel
theorem dX0_init_30 : decode cX0_init 30 = .ok (.newarray .int, 2) := by decide +kernel
theorem dX0_init_32 : decode cX0_init 32 = .ok (.putfield 20, 3) := by decide +kernel
theorem dX0_init_35 : decode cX0_init 35 = .ok (.aload_n 0, 1) := by decide +kernel
theorem dX0_init_36 : decode cX0_init 36 = .ok (.sipush 200, 3) := by decide +kernel
theorem dX0_init_39 : decode cX0_init 39 = .ok (.newarray .int, 2) := by decide +kernel
theorem dX0_init_41 : decode cX0_init 41 = .ok (.putfield 24, 3) := by decide +kernel
theorem dX0_init_44 : decode cX0_init 44 = .ok (.aload_n 0, 1) := by decide +kernel
theorem dX0_init_45 : decode cX0_init 45 = .ok (.sipush 200, 3) := by decide +kernel
theorem dX0_init_48 : decode cX0_init 48 = .ok (.newarray .int, 2) := by decide +kernel
theorem dX0_init_50 : decode cX0_init 50 = .ok (.putfield 27, 3) := by decide +kernel
theorem dX0_init_53 : decode cX0_init 53 = .ok (.aload_n 0, 1) := by decide +kernel
theorem dX0_init_54 : decode cX0_init 54 = .ok (.iconst 0, 1) := by decide +kernel
theorem dX0_init_55 : decode cX0_init 55 = .ok (.putfield 30, 3) := by decide +kernel
theorem dX0_init_58 : decode cX0_init 58 = .ok (.return_, 1) := by decide +kernel
theorem dX0_put_0 : decode cX0_put 0 = .ok (.iload_n 3, 1) := by decide +kernel
theorem dX0_put_1 : decode cX0_put 1 = .ok (.iconst 1, 1) := by decide +kernel
theorem dX0_put_2 : decode cX0_put 2 = .ok (.if_icmp .lt 20, 3) := by decide +kernel
theorem dX0_put_5 : decode cX0_put 5 = .ok (.iload_n 3, 1) := by decide +kernel
theorem dX0_put_6 : decode cX0_put 6 = .ok (.bipush 8, 2) := by decide +kernel
theorem dX0_put_8 : decode cX0_put 8 = .ok (.if_icmp .gt 14, 3) := by decide +kernel
theorem dX0_put_11 : decode cX0_put 11 = .ok (.iload_n 3, 1) := by decide +kernel
theorem dX0_put_12 : decode cX0_put 12 = .ok (.bipush 60, 2) := by decide +kernel
theorem dX0_put_14 : decode cX0_put 14 = .ok (.aload_n 0, 1) := by decide +kernel
theorem dX0_put_15 : decode cX0_put 15 = .ok (.getfield 13, 3) := by decide +kernel
theorem dX0_put_18 : decode cX0_put 18 = .ok (.isub, 1) := by decide +kernel
theorem dX0_put_19 : decode cX0_put 19 = .ok (.if_icmp .le 5, 3) := by decide +kernel
theorem dX0_put_22 : decode cX0_put 22 = .ok (.iconst 0, 1) := by decide +kernel
theorem dX0_put_23 : decode cX0_put 23 = .ok (.ireturn, 1) := by decide +kernel
theorem dX0_put_24 : decode cX0_put 24 = .ok (.iload_n 3, 1) := by decide +kernel
theorem dX0_put_25 : decode cX0_put 25 = .ok (.iconst 1, 1) := by decide +kernel
theorem dX0_put_26 : decode cX0_put 26 = .ok (.isub, 1) := by decide +kernel
theorem dX0_put_27 : decode cX0_put 27 = .ok (.istore 4, 2) := by decide +kernel
theorem dX0_put_29 : decode cX0_put 29 = .ok (.iload 4, 2) := by decide +kernel
theorem dX0_put_31 : decode cX0_put 31 = .ok (.ifCond .lt 37, 3) := by decide +kernel
theorem dX0_put_34 : decode cX0_put 34 = .ok (.aload_n 0, 1) := by decide +kernel
theorem dX0_put_35 : decode cX0_put 35 = .ok (.getfield 9, 3) := by decide +kernel
theorem dX0_put_38 : decode cX0_put 38 = .ok (.aload_n 0, 1) := by decide +kernel
theorem dX0_put_39 : decode cX0_put 39 = .ok (.getfield 13, 3) := by decide +kernel
theorem dX0_put_42 : decode cX0_put 42 = .ok (.lload_n 1, 1) := by decide +kernel
theorem dX0_put_43 : decode cX0_put 43 = .ok (.bipush 8, 2) := by decide +kernel
theorem dX0_put_45 : decode cX0_put 45 = .ok (.iload 4, 2) := by decide +kernel
theorem dX0_put_47 : decode cX0_put 47 = .ok (.imul, 1) := by decide +kernel
theorem dX0_put_48 : decode cX0_put 48 = .ok (.lushr, 1) := by decide +kernel
theorem dX0_put_49 : decode cX0_put 49 = .ok (.l2i, 1) := by decide +kernel
theorem dX0_put_50 : decode cX0_put 50 = .ok (.i2b, 1) := by decide +kernel
theorem dX0_put_51 : decode cX0_put 51 = .ok (.bastore, 1) := by decide +kernel
theorem dX0_put_52 : decode cX0_put 52 = .ok (.aload_n 0, 1) := by decide +kernel
theorem dX0_put_53 : decode cX0_put 53 = .ok (.dup, 1) := by decide +kernel
theorem dX0_put_54 : decode cX0_put 54 = .ok (.getfield 13, 3) := by decide +kernel
theorem dX0_put_57 : decode cX0_put 57 = .ok (.iconst 1, 1) := by decide +kernel
theorem dX0_put_58 : decode cX0_put 58 = .ok (.iadd, 1) := by decide +kernel
theorem dX0_put_59 : decode cX0_put 59 = .ok (.putfield 13, 3) := by decide +kernel
theorem dX0_put_62 : decode cX0_put 62 = .ok (.iinc 4 (-1), 3) := by decide +kernel
theorem dX0_put_65 : decode cX0_put 65 = .ok (.goto (-36), 3) := by decide +kernel
theorem dX0_put_68 : decode cX0_put 68 = .ok (.iconst 1, 1) := by decide +kernel
theorem dX0_put_69 : decode cX0_put 69 = .ok (.ireturn, 1) := by decide +kernel
set_option maxRecDepth 20000 in
theorem ggX0_give_X0_takeHand : GoodIn wsX0_give wsX0_takeHand := goodIn_r _ [7, 1, 8, 9, 10, 6, 11, 12, 13, 14, 15, 16, 17, 18, 19, 20, 21, 22, 23, 2, 24, 29, 30, 31, 32, 33, 34, 35] (by decide +kernel) (by decide +kernel)
set_option maxRecDepth 20000 in
theorem gX0_give_X0_takeHand : GoodIn wsX0_give (wsV RX0 33 RX0 yX0_takeHand wsX0_takeHand) := goodIn_app (goodIn_of _ (by decide +kernel)) ggX0_give_X0_takeHand
set_option maxRecDepth 20000 in
theorem ggX0_give_X0_isGiven : GoodIn wsX0_give wsX0_isGiven := goodIn_r _ [28, 2, 29, 30, 31, 32, 33, 34, 35] (by decide +kernel) (by decide +kernel)
set_option maxRecDepth 20000 in
theorem gX0_give_X0_isGiven : GoodIn wsX0_give (wsV RX0 37 RX0 yX0_isGiven wsX0_isGiven) := goodIn_app (goodIn_of _ (by decide +kernel)) ggX0_give_X0_isGiven
theorem dX0_give_0 : decode cX0_give 0 = .ok (.aload_n 0, 1) := by decide +kernel
theorem dX0_give_1 : decode cX0_give 1 = .ok (.getfield 13, 3) := by decide +kernel
theorem dX0_give_4 : decode cX0_give 4 = .ok (.ifCond .ne 6, 3) := by decide +kernel
theorem dX0_give_7 : decode cX0_give 7 = .ok (.bipush (-3), 2) := by decide +kernel
theorem dX0_give_9 : decode cX0_give 9 = .ok (.ireturn, 1) := by decide +kernel
theorem dX0_give_10 : decode cX0_give 10 = .ok (.aload_n 0, 1) := by decide +kernel
theorem dX0_give_11 : decode cX0_give 11 = .ok (.invokevirtual 33, 3) := by decide +kernel
theorem dX0_give_14 : decode cX0_give 14 = .ok (.istore_n 1, 1) := by decide +kernel
theorem dX0_give_15 : decode cX0_give 15 = .ok (.iload_n 1, 1) := by decide +kernel
theorem dX0_give_16 : decode cX0_give 16 = .ok (.ifCond .ge 5, 3) := by decide +kernel
theorem dX0_give_19 : decode cX0_give 19 = .ok (.iload_n 1, 1) := by decide +kernel
theorem dX0_give_20 : decode cX0_give 20 = .ok (.ireturn, 1) := by decide +kernel
theorem dX0_give_21 : decode cX0_give 21 = .ok (.aload_n 0, 1) := by decide +kernel
theorem dX0_give_22 : decode cX0_give 22 = .ok (.iload_n 1, 1) := by decide +kernel
theorem dX0_give_23 : decode cX0_give 23 = .ok (.invokevirtual 37, 3) := by decide +kernel
theorem dX0_give_26 : decode cX0_give 26 = .ok (.istore_n 2, 1) := by decide +kernel
theorem dX0_give_27 : decode cX0_give 27 = .ok (.aload_n 0, 1) := by decide +kernel
theorem dX0_give_28 : decode cX0_give 28 = .ok (.getfield 24, 3) := by decide +kernel
theorem dX0_give_31 : decode cX0_give 31 = .ok (.iload_n 1, 1) := by decide +kernel
theorem dX0_give_32 : decode cX0_give 32 = .ok (.dup2, 1) := by decide +kernel
theorem dX0_give_33 : decode cX0_give 33 = .ok (.iaload, 1) := by decide +kernel
theorem dX0_give_34 : decode cX0_give 34 = .ok (.iconst 1, 1) := by decide +kernel
theorem dX0_give_35 : decode cX0_give 35 = .ok (.iadd, 1) := by decide +kernel
theorem dX0_give_36 : decode cX0_give 36 = .ok (.iastore, 1) := by decide +kernel
theorem dX0_give_37 : decode cX0_give 37 = .ok (.iload_n 2, 1) := by decide +kernel
theorem dX0_give_38 : decode cX0_give 38 = .ok (.ifCond .eq 7, 3) := by decide +kernel
theorem dX0_give_41 : decode cX0_give 41 = .ok (.iconst (-1), 1) := by decide +kernel
theorem dX0_give_42 : decode cX0_give 42 = .ok (.goto 4, 3) := by decide +kernel
theorem dX0_give_45 : decode cX0_give 45 = .ok (.iload_n 1, 1) := by decide +kernel
theorem dX0_give_46 : decode cX0_give 46 = .ok (.ireturn, 1) := by decide +kernel
set_option maxRecDepth 20000 in
theorem ggX0_refer_X0_takeHand : GoodIn wsX0_refer wsX0_takeHand := goodIn_r _ [7, 1, 8, 9, 10, 6, 11, 12, 13, 14, 15, 16, 17, 18, 19, 20, 21, 22, 23, 24, 2, 25, 26, 27, 28, 29, 30, 31] (by decide +kernel) (by decide +kernel)
set_option maxRecDepth 20000 in
theorem gX0_refer_X0_takeHand : GoodIn wsX0_refer (wsV RX0 33 RX0 yX0_takeHand wsX0_takeHand) := goodIn_app (goodIn_of _ (by decide +kernel)) ggX0_refer_X0_takeHand
theorem dX0_refer_0 : decode cX0_refer 0 = .ok (.aload_n 0, 1) := by decide +kernel
theorem dX0_refer_1 : decode cX0_refer 1 = .ok (.getfield 13, 3) := by decide +kernel
theorem dX0_refer_4 : decode cX0_refer 4 = .ok (.ifCond .ne 6, 3) := by decide +kernel
theorem dX0_refer_7 : decode cX0_refer 7 = .ok (.bipush (-3), 2) := by decide +kernel
theorem dX0_refer_9 : decode cX0_refer 9 = .ok (.ireturn, 1) := by decide +kernel
theorem dX0_refer_10 : decode cX0_refer 10 = .ok (.aload_n 0, 1) := by decide +kernel
theorem dX0_refer_11 : decode cX0_refer 11 = .ok (.invokevirtual 33, 3) := by decide +kernel
theorem dX0_refer_14 : decode cX0_refer 14 = .ok (.istore_n 1, 1) := by decide +kernel
theorem dX0_refer_15 : decode cX0_refer 15 = .ok (.iload_n 1, 1) := by decide +kernel
theorem dX0_refer_16 : decode cX0_refer 16 = .ok (.ifCond .ge 5, 3) := by decide +kernel
theorem dX0_refer_19 : decode cX0_refer 19 = .ok (.iload_n 1, 1) := by decide +kernel
theorem dX0_refer_20 : decode cX0_refer 20 = .ok (.ireturn, 1) := by decide +kernel
theorem dX0_refer_21 : decode cX0_refer 21 = .ok (.aload_n 0, 1) := by decide +kernel
theorem dX0_refer_22 : decode cX0_refer 22 = .ok (.getfield 27, 3) := by decide +kernel
theorem dX0_refer_25 : decode cX0_refer 25 = .ok (.iload_n 1, 1) := by decide +kernel
theorem dX0_refer_26 : decode cX0_refer 26 = .ok (.dup2, 1) := by decide +kernel
theorem dX0_refer_27 : decode cX0_refer 27 = .ok (.iaload, 1) := by decide +kernel
theorem dX0_refer_28 : decode cX0_refer 28 = .ok (.iconst 1, 1) := by decide +kernel
theorem dX0_refer_29 : decode cX0_refer 29 = .ok (.iadd, 1) := by decide +kernel
theorem dX0_refer_30 : decode cX0_refer 30 = .ok (.iastore, 1) := by decide +kernel
theorem dX0_refer_31 : decode cX0_refer 31 = .ok (.iload_n 1, 1) := by decide +kernel
theorem dX0_refer_32 : decode cX0_refer 32 = .ok (.ireturn, 1) := by decide +kernel
set_option maxRecDepth 20000 in
theorem ggX0_find_X0_isInHand : GoodIn wsX0_find wsX0_isInHand := goodIn_r _ [6, 7, 8, 9, 10, 11, 12, 13, 14, 15, 16, 17] (by decide +kernel) (by decide +kernel)
set_option maxRecDepth 20000 in
theorem gX0_find_X0_isInHand : GoodIn wsX0_find (wsV RX0 41 RX0 yX0_isInHand wsX0_isInHand) := goodIn_app (goodIn_of _ (by decide +kernel)) ggX0_find_X0_isInHand
theorem dX0_find_0 : decode cX0_find 0 = .ok (.iconst 0, 1) := by decide +kernel
theorem dX0_find_1 : decode cX0_find 1 = .ok (.istore_n 1, 1) := by decide +kernel
theorem dX0_find_2 : decode cX0_find 2 = .ok (.iload_n 1, 1) := by decide +kernel
theorem dX0_find_3 : decode cX0_find 3 = .ok (.aload_n 0, 1) := by decide +kernel
theorem dX0_find_4 : decode cX0_find 4 = .ok (.getfield 30, 3) := by decide +kernel
theorem dX0_find_7 : decode cX0_find 7 = .ok (.if_icmp .ge 19, 3) := by decide +kernel
theorem dX0_find_10 : decode cX0_find 10 = .ok (.aload_n 0, 1) := by decide +kernel
theorem dX0_find_11 : decode cX0_find 11 = .ok (.iload_n 1, 1) := by decide +kernel
theorem dX0_find_12 : decode cX0_find 12 = .ok (.invokevirtual 41, 3) := by decide +kernel
theorem dX0_find_15 : decode cX0_find 15 = .ok (.ifCond .eq 5, 3) := by decide +kernel
theorem dX0_find_18 : decode cX0_find 18 = .ok (.iload_n 1, 1) := by decide +kernel
theorem dX0_find_19 : decode cX0_find 19 = .ok (.ireturn, 1) := by decide +kernel
theorem dX0_find_20 : decode cX0_find 20 = .ok (.iinc 1 1, 3) := by decide +kernel
theorem dX0_find_23 : decode cX0_find 23 = .ok (.goto (-21), 3) := by decide +kernel
theorem dX0_find_26 : decode cX0_find 26 = .ok (.iconst (-1), 1) := by decide +kernel
theorem dX0_find_27 : decode cX0_find 27 = .ok (.ireturn, 1) := by decide +kernel
set_option maxRecDepth 20000 in
theorem ggX0_look_X0_isKnown : GoodIn wsX0_look wsX0_isKnown := goodIn_r _ [8, 9, 22, 23, 24, 25, 26, 27, 28] (by decide +kernel) (by decide +kernel)
set_option maxRecDepth 20000 in
theorem gX0_look_X0_isKnown : GoodIn wsX0_look (wsV RX0 44 RX0 yX0_isKnown wsX0_isKnown) := goodIn_app (goodIn_of _ (by decide +kernel)) ggX0_look_X0_isKnown
set_option maxRecDepth 20000 in
theorem ggX0_look_X0_firstMissingFrom : GoodIn wsX0_look wsX0_firstMissingFrom := goodIn_r _ [13, 9, 14, 15, 16, 7, 17, 2, 18, 19, 20, 21, 1, 22, 23, 24, 25, 26, 27, 28] (by decide +kernel) (by decide +kernel)
set_option maxRecDepth 20000 in
theorem gX0_look_X0_firstMissingFrom : GoodIn wsX0_look (wsV RX0 47 RX0 yX0_firstMissingFrom wsX0_firstMissingFrom) := goodIn_app (goodIn_of _ (by decide +kernel)) ggX0_look_X0_firstMissingFrom
theorem dX0_look_0 : decode cX0_look 0 = .ok (.aload_n 0, 1) := by decide +kernel
theorem dX0_look_1 : decode cX0_look 1 = .ok (.iload_n 1, 1) := by decide +kernel
theorem dX0_look_2 : decode cX0_look 2 = .ok (.invokevirtual 44, 3) := by decide +kernel
theorem dX0_look_5 : decode cX0_look 5 = .ok (.ifCond .ne 5, 3) := by decide +kernel
theorem dX0_look_8 : decode cX0_look 8 = .ok (.iconst (-1), 1) := by decide +kernel
theorem dX0_look_9 : decode cX0_look 9 = .ok (.ireturn, 1) := by decide +kernel
theorem dX0_look_10 : decode cX0_look 10 = .ok (.iload_n 2, 1) := by decide +kernel
theorem dX0_look_11 : decode cX0_look 11 = .ok (.tableswitch 58 0 3 #[29, 36, 43, 50], 29) := by decide +kernel
theorem dX0_look_40 : decode cX0_look 40 = .ok (.aload_n 0, 1) := by decide +kernel
theorem dX0_look_41 : decode cX0_look 41 = .ok (.getfield 24, 3) := by decide +kernel
theorem dX0_look_44 : decode cX0_look 44 = .ok (.iload_n 1, 1) := by decide +kernel
theorem dX0_look_45 : decode cX0_look 45 = .ok (.iaload, 1) := by decide +kernel
theorem dX0_look_46 : decode cX0_look 46 = .ok (.ireturn, 1) := by decide +kernel
theorem dX0_look_47 : decode cX0_look 47 = .ok (.aload_n 0, 1) := by decide +kernel
theorem dX0_look_48 : decode cX0_look 48 = .ok (.getfield 27, 3) := by decide +kernel
theorem dX0_look_51 : decode cX0_look 51 = .ok (.iload_n 1, 1) := by decide +kernel
theorem dX0_look_52 : decode cX0_look 52 = .ok (.iaload, 1) := by decide +kernel
theorem dX0_look_53 : decode cX0_look 53 = .ok (.ireturn, 1) := by decide +kernel
theorem dX0_look_54 : decode cX0_look 54 = .ok (.aload_n 0, 1) := by decide +kernel
theorem dX0_look_55 : decode cX0_look 55 = .ok (.getfield 20, 3) := by decide +kernel
theorem dX0_look_58 : decode cX0_look 58 = .ok (.iload_n 1, 1) := by decide +kernel
theorem dX0_look_59 : decode cX0_look 59 = .ok (.iaload, 1) := by decide +kernel
theorem dX0_look_60 : decode cX0_look 60 = .ok (.ireturn, 1) := by decide +kernel
theorem dX0_look_61 : decode cX0_look 61 = .ok (.aload_n 0, 1) := by decide +kernel
theorem dX0_look_62 : decode cX0_look 62 = .ok (.iload_n 1, 1) := by decide +kernel
theorem dX0_look_63 : decode cX0_look 63 = .ok (.iconst 1, 1) := by decide +kernel
theorem dX0_look_64 : decode cX0_look 64 = .ok (.iadd, 1) := by decide +kernel
theorem dX0_look_65 : decode cX0_look 65 = .ok (.invokevirtual 47, 3) := by decide +kernel
theorem dX0_look_68 : decode cX0_look 68 = .ok (.ireturn, 1) := by decide +kernel
theorem dX0_look_69 : decode cX0_look 69 = .ok (.iconst (-1), 1) := by decide +kernel
theorem dX0_look_70 : decode cX0_look 70 = .ok (.ireturn, 1) := by decide +kernel
set_option maxRecDepth 20000 in
theorem ggX0_byteOf_X0_isKnown : GoodIn wsX0_byteOf wsX0_isKnown := goodIn_r _ [7, 8, 9, 10, 11, 12, 13, 14, 15] (by decide +kernel) (by decide +kernel)
set_option maxRecDepth 20000 in
theorem gX0_byteOf_X0_isKnown : GoodIn wsX0_byteOf (wsV RX0 44 RX0 yX0_isKnown wsX0_isKnown) := goodIn_app (goodIn_of _ (by decide +kernel)) ggX0_byteOf_X0_isKnown
theorem dX0_byteOf_0 : decode cX0_byteOf 0 = .ok (.aload_n 0, 1) := by decide +kernel
theorem dX0_byteOf_1 : decode cX0_byteOf 1 = .ok (.iload_n 1, 1) := by decide +kernel
theorem dX0_byteOf_2 : decode cX0_byteOf 2 = .ok (.invokevirtual 44, 3) := by decide +kernel
theorem dX0_byteOf_5 : decode cX0_byteOf 5 = .ok (.ifCond .eq 17, 3) := by decide +kernel
theorem dX0_byteOf_8 : decode cX0_byteOf 8 = .ok (.iload_n 2, 1) := by decide +kernel
theorem dX0_byteOf_9 : decode cX0_byteOf 9 = .ok (.ifCond .lt 13, 3) := by decide +kernel
theorem dX0_byteOf_12 : decode cX0_byteOf 12 = .ok (.iload_n 2, 1) := by decide +kernel
theorem dX0_byteOf_13 : decode cX0_byteOf 13 = .ok (.aload_n 0, 1) := by decide +kernel
theorem dX0_byteOf_14 : decode cX0_byteOf 14 = .ok (.getfield 20, 3) := by decide +kernel
theorem dX0_byteOf_17 : decode cX0_byteOf 17 = .ok (.iload_n 1, 1) := by decide +kernel
theorem dX0_byteOf_18 : decode cX0_byteOf 18 = .ok (.iaload, 1) := by decide +kernel
theorem dX0_byteOf_19 : decode cX0_byteOf 19 = .ok (.if_icmp .lt 5, 3) := by decide +kernel
theorem dX0_byteOf_22 : decode cX0_byteOf 22 = .ok (.iconst (-1), 1) := by decide +kernel
theorem dX0_byteOf_23 : decode cX0_byteOf 23 = .ok (.ireturn, 1) := by decide +kernel
theorem dX0_byteOf_24 : decode cX0_byteOf 24 = .ok (.aload_n 0, 1) := by decide +kernel
theorem dX0_byteOf_25 : decode cX0_byteOf 25 = .ok (.getfield 17, 3) := by decide +kernel
theorem dX0_byteOf_28 : decode cX0_byteOf 28 = .ok (.iload_n 1, 1) := by decide +kernel
theorem dX0_byteOf_29 : decode cX0_byteOf 29 = .ok (.bipush 60, 2) := by decide +kernel
theorem dX0_byteOf_31 : decode cX0_byteOf 31 = .ok (.imul, 1) := by decide +kernel
theorem dX0_byteOf_32 : decode cX0_byteOf 32 = .ok (.iload_n 2, 1) := by decide +kernel
theorem dX0_byteOf_33 : decode cX0_byteOf 33 = .ok (.iadd, 1) := by decide +kernel
theorem dX0_byteOf_34 : decode cX0_byteOf 34 = .ok (.baload, 1) := by decide +kernel
theorem dX0_byteOf_35 : decode cX0_byteOf 35 = .ok (.sipush 255, 3) := by decide +kernel
theorem dX0_byteOf_38 : decode cX0_byteOf 38 = .ok (.iand, 1) := by decide +kernel
theorem dX0_byteOf_39 : decode cX0_byteOf 39 = .ok (.ireturn, 1) := by decide +kernel
set_option maxRecDepth 20000 in
theorem ggX0_count_X0_countGiven : GoodIn wsX0_count wsX0_countGiven := goodIn_r _ [7, 1, 8, 9, 10, 6, 11, 12, 30, 31, 32, 33, 34, 35, 36] (by decide +kernel) (by decide +kernel)
set_option maxRecDepth 20000 in
theorem gX0_count_X0_countGiven : GoodIn wsX0_count (wsV RX0 51 RX0 yX0_countGiven wsX0_countGiven) := goodIn_app (goodIn_of _ (by decide +kernel)) ggX0_count_X0_countGiven
set_option maxRecDepth 20000 in
theorem ggX0_count_X0_countMissing : GoodIn wsX0_count wsX0_countMissing := goodIn_r _ [16, 1, 17, 18, 19, 6, 20, 21, 8, 9, 10, 11, 12, 30, 31, 32, 33, 34, 35, 36] (by decide +kernel) (by decide +kernel)
set_option maxRecDepth 20000 in
theorem gX0_count_X0_countMissing : GoodIn wsX0_count (wsV RX0 54 RX0 yX0_countMissing wsX0_countMissing) := goodIn_app (goodIn_of _ (by decide +kernel)) ggX0_count_X0_countMissing
set_option maxRecDepth 20000 in
theorem ggX0_count_X0_countGivingsInVain : GoodIn wsX0_count wsX0_countGivingsInVain := goodIn_r _ [25, 1, 12, 8, 9, 10, 6, 11, 30, 31, 32, 33, 34, 35, 36] (by decide +kernel) (by decide +kernel)
set_option maxRecDepth 20000 in
theorem gX0_count_X0_countGivingsInVain : GoodIn wsX0_count (wsV RX0 57 RX0 yX0_countGivingsInVain wsX0_countGivingsInVain) := goodIn_app (goodIn_of _ (by decide +kernel)) ggX0_count_X0_countGivingsInVain
set_option maxRecDepth 20000 in
theorem ggX0_count_X0_firstMissingFrom : GoodIn wsX0_count wsX0_firstMissingFrom := goodIn_r _ [29, 1, 17, 18, 19, 6, 20, 21, 8, 9, 10, 11, 12, 30, 31, 32, 33, 34, 35, 36] (by decide +kernel) (by decide +kernel)
set_option maxRecDepth 20000 in
theorem gX0_count_X0_firstMissingFrom : GoodIn wsX0_count (wsV RX0 47 RX0 yX0_firstMissingFrom wsX0_firstMissingFrom) := goodIn_app (goodIn_of _ (by decide +kernel)) ggX0_count_X0_firstMissingFrom
theorem dX0_count_0 : decode cX0_count 0 = .ok (.iload_n 1, 1) := by decide +kernel
theorem dX0_count_1 : decode cX0_count 1 = .ok (.tableswitch 70 0 5 #[39, 44, 49, 54, 59, 64], 39) := by decide +kernel
theorem dX0_count_40 : decode cX0_count 40 = .ok (.aload_n 0, 1) := by decide +kernel
theorem dX0_count_41 : decode cX0_count 41 = .ok (.getfield 30, 3) := by decide +kernel
theorem dX0_count_44 : decode cX0_count 44 = .ok (.ireturn, 1) := by decide +kernel
theorem dX0_count_45 : decode cX0_count 45 = .ok (.aload_n 0, 1) := by decide +kernel
theorem dX0_count_46 : decode cX0_count 46 = .ok (.invokevirtual 51, 3) := by decide +kernel
theorem dX0_count_49 : decode cX0_count 49 = .ok (.ireturn, 1) := by decide +kernel
theorem dX0_count_50 : decode cX0_count 50 = .ok (.aload_n 0, 1) := by decide +kernel
theorem dX0_count_51 : decode cX0_count 51 = .ok (.invokevirtual 54, 3) := by decide +kernel
theorem dX0_count_54 : decode cX0_count 54 = .ok (.ireturn, 1) := by decide +kernel
theorem dX0_count_55 : decode cX0_count 55 = .ok (.aload_n 0, 1) := by decide +kernel
theorem dX0_count_56 : decode cX0_count 56 = .ok (.invokevirtual 57, 3) := by decide +kernel
theorem dX0_count_59 : decode cX0_count 59 = .ok (.ireturn, 1) := by decide +kernel
theorem dX0_count_60 : decode cX0_count 60 = .ok (.aload_n 0, 1) := by decide +kernel
theorem dX0_count_61 : decode cX0_count 61 = .ok (.getfield 13, 3) := by decide +kernel
theorem dX0_count_64 : decode cX0_count 64 = .ok (.ireturn, 1) := by decide +kernel
theorem dX0_count_65 : decode cX0_count 65 = .ok (.aload_n 0, 1) := by decide +kernel
theorem dX0_count_66 : decode cX0_count 66 = .ok (.iconst 0, 1) := by decide +kernel
theorem dX0_count_67 : decode cX0_count 67 = .ok (.invokevirtual 47, 3) := by decide +kernel
theorem dX0_count_70 : decode cX0_count 70 = .ok (.ireturn, 1) := by decide +kernel
theorem dX0_count_71 : decode cX0_count 71 = .ok (.iconst (-1), 1) := by decide +kernel
theorem dX0_count_72 : decode cX0_count 72 = .ok (.ireturn, 1) := by decide +kernel
theorem dX0_clear_0 : decode cX0_clear 0 = .ok (.aload_n 0, 1) := by decide +kernel
theorem dX0_clear_1 : decode cX0_clear 1 = .ok (.getfield 30, 3) := by decide +kernel
theorem dX0_clear_4 : decode cX0_clear 4 = .ok (.istore_n 1, 1) := by decide +kernel
theorem dX0_clear_5 : decode cX0_clear 5 = .ok (.aload_n 0, 1) := by decide +kernel
theorem dX0_clear_6 : decode cX0_clear 6 = .ok (.iconst 0, 1) := by decide +kernel
theorem dX0_clear_7 : decode cX0_clear 7 = .ok (.putfield 30, 3) := by decide +kernel
theorem dX0_clear_10 : decode cX0_clear 10 = .ok (.aload_n 0, 1) := by decide +kernel
theorem dX0_clear_11 : decode cX0_clear 11 = .ok (.iconst 0, 1) := by decide +kernel
theorem dX0_clear_12 : decode cX0_clear 12 = .ok (.putfield 13, 3) := by decide +kernel
theorem dX0_clear_15 : decode cX0_clear 15 = .ok (.iload_n 1, 1) := by decide +kernel
theorem dX0_clear_16 : decode cX0_clear 16 = .ok (.ireturn, 1) := by decide +kernel
set_option maxRecDepth 20000 in
theorem ggX0_takeHand_X0_find : GoodIn wsX0_takeHand wsX0_find := goodIn_r _ [6, 7, 8, 9, 10, 5, 11, 12, 1, 13, 14, 21, 22, 23, 24, 25, 26, 27] (by decide +kernel) (by decide +kernel)
set_option maxRecDepth 20000 in
theorem gX0_takeHand_X0_find : GoodIn wsX0_takeHand (wsV RX0 60 RX0 yX0_find wsX0_find) := goodIn_app (goodIn_of _ (by decide +kernel)) ggX0_takeHand_X0_find
set_option maxRecDepth 20000 in
theorem ggX0_takeHand_X0_learnHand : GoodIn wsX0_takeHand wsX0_learnHand := goodIn_r _ [18, 7, 1, 13, 14, 12, 19, 20, 21, 22, 23, 24, 25, 26, 27] (by decide +kernel) (by decide +kernel)
set_option maxRecDepth 20000 in
theorem gX0_takeHand_X0_learnHand : GoodIn wsX0_takeHand (wsV RX0 63 RX0 yX0_learnHand wsX0_learnHand) := goodIn_app (goodIn_of _ (by decide +kernel)) ggX0_takeHand_X0_learnHand
theorem dX0_takeHand_0 : decode cX0_takeHand 0 = .ok (.aload_n 0, 1) := by decide +kernel
theorem dX0_takeHand_1 : decode cX0_takeHand 1 = .ok (.invokevirtual 60, 3) := by decide +kernel
theorem dX0_takeHand_4 : decode cX0_takeHand 4 = .ok (.istore_n 1, 1) := by decide +kernel
theorem dX0_takeHand_5 : decode cX0_takeHand 5 = .ok (.iload_n 1, 1) := by decide +kernel
theorem dX0_takeHand_6 : decode cX0_takeHand 6 = .ok (.iconst (-1), 1) := by decide +kernel
theorem dX0_takeHand_7 : decode cX0_takeHand 7 = .ok (.if_icmp .ne 8, 3) := by decide +kernel
theorem dX0_takeHand_10 : decode cX0_takeHand 10 = .ok (.aload_n 0, 1) := by decide +kernel
theorem dX0_takeHand_11 : decode cX0_takeHand 11 = .ok (.invokevirtual 63, 3) := by decide +kernel
theorem dX0_takeHand_14 : decode cX0_takeHand 14 = .ok (.istore_n 1, 1) := by decide +kernel
theorem dX0_takeHand_15 : decode cX0_takeHand 15 = .ok (.aload_n 0, 1) := by decide +kernel
theorem dX0_takeHand_16 : decode cX0_takeHand 16 = .ok (.iconst 0, 1) := by decide +kernel
theorem dX0_takeHand_17 : decode cX0_takeHand 17 = .ok (.putfield 13, 3) := by decide +kernel
theorem dX0_takeHand_20 : decode cX0_takeHand 20 = .ok (.iload_n 1, 1) := by decide +kernel
theorem dX0_takeHand_21 : decode cX0_takeHand 21 = .ok (.ireturn, 1) := by decide +kernel
theorem dX0_learnHand_0 : decode cX0_learnHand 0 = .ok (.aload_n 0, 1) := by decide +kernel
theorem dX0_learnHand_1 : decode cX0_learnHand 1 = .ok (.getfield 30, 3) := by decide +kernel
theorem dX0_learnHand_4 : decode cX0_learnHand 4 = .ok (.sipush 200, 3) := by decide +kernel
theorem dX0_learnHand_7 : decode cX0_learnHand 7 = .ok (.if_icmp .lt 6, 3) := by decide +kernel
theorem dX0_learnHand_10 : decode cX0_learnHand 10 = .ok (.bipush (-2), 2) := by decide +kernel
theorem dX0_learnHand_12 : decode cX0_learnHand 12 = .ok (.ireturn, 1) := by decide +kernel
theorem dX0_learnHand_13 : decode cX0_learnHand 13 = .ok (.aload_n 0, 1) := by decide +kernel
theorem dX0_learnHand_14 : decode cX0_learnHand 14 = .ok (.getfield 30, 3) := by decide +kernel
theorem dX0_learnHand_17 : decode cX0_learnHand 17 = .ok (.istore_n 1, 1) := by decide +kernel
theorem dX0_learnHand_18 : decode cX0_learnHand 18 = .ok (.iconst 0, 1) := by decide +kernel
theorem dX0_learnHand_19 : decode cX0_learnHand 19 = .ok (.istore_n 2, 1) := by decide +kernel
theorem dX0_learnHand_20 : decode cX0_learnHand 20 = .ok (.iload_n 2, 1) := by decide +kernel
theorem dX0_learnHand_21 : decode cX0_learnHand 21 = .ok (.aload_n 0, 1) := by decide +kernel
theorem dX0_learnHand_22 : decode cX0_learnHand 22 = .ok (.getfield 13, 3) := by decide +kernel
theorem dX0_learnHand_25 : decode cX0_learnHand 25 = .ok (.if_icmp .ge 26, 3) := by decide +kernel
theorem dX0_learnHand_28 : decode cX0_learnHand 28 = .ok (.aload_n 0, 1) := by decide +kernel
theorem dX0_learnHand_29 : decode cX0_learnHand 29 = .ok (.getfield 17, 3) := by decide +kernel
theorem dX0_learnHand_32 : decode cX0_learnHand 32 = .ok (.iload_n 1, 1) := by decide +kernel
theorem dX0_learnHand_33 : decode cX0_learnHand 33 = .ok (.bipush 60, 2) := by decide +kernel
theorem dX0_learnHand_35 : decode cX0_learnHand 35 = .ok (.imul, 1) := by decide +kernel
theorem dX0_learnHand_36 : decode cX0_learnHand 36 = .ok (.iload_n 2, 1) := by decide +kernel
theorem dX0_learnHand_37 : decode cX0_learnHand 37 = .ok (.iadd, 1) := by decide +kernel
theorem dX0_learnHand_38 : decode cX0_learnHand 38 = .ok (.aload_n 0, 1) := by decide +kernel
theorem dX0_learnHand_39 : decode cX0_learnHand 39 = .ok (.getfield 9, 3) := by decide +kernel
theorem dX0_learnHand_42 : decode cX0_learnHand 42 = .ok (.iload_n 2, 1) := by decide +kernel
theorem dX0_learnHand_43 : decode cX0_learnHand 43 = .ok (.baload, 1) := by decide +kernel
theorem dX0_learnHand_44 : decode cX0_learnHand 44 = .ok (.bastore, 1) := by decide +kernel
theorem dX0_learnHand_45 : decode cX0_learnHand 45 = .ok (.iinc 2 1, 3) := by decide +kernel
theorem dX0_learnHand_48 : decode cX0_learnHand 48 = .ok (.goto (-28), 3) := by decide +kernel
theorem dX0_learnHand_51 : decode cX0_learnHand 51 = .ok (.aload_n 0, 1) := by decide +kernel
theorem dX0_learnHand_52 : decode cX0_learnHand 52 = .ok (.getfield 20, 3) := by decide +kernel
theorem dX0_learnHand_55 : decode cX0_learnHand 55 = .ok (.iload_n 1, 1) := by decide +kernel
theorem dX0_learnHand_56 : decode cX0_learnHand 56 = .ok (.aload_n 0, 1) := by decide +kernel
theorem dX0_learnHand_57 : decode cX0_learnHand 57 = .ok (.getfield 13, 3) := by decide +kernel
theorem dX0_learnHand_60 : decode cX0_learnHand 60 = .ok (.iastore, 1) := by decide +kernel
theorem dX0_learnHand_61 : decode cX0_learnHand 61 = .ok (.aload_n 0, 1) := by decide +kernel
theorem dX0_learnHand_62 : decode cX0_learnHand 62 = .ok (.getfield 24, 3) := by decide +kernel
theorem dX0_learnHand_65 : decode cX0_learnHand 65 = .ok (.iload_n 1, 1) := by decide +kernel
theorem dX0_learnHand_66 : decode cX0_learnHand 66 = .ok (.iconst 0, 1) := by decide +kernel
theorem dX0_learnHand_67 : decode cX0_learnHand 67 = .ok (.iastore, 1) := by decide +kernel
theorem dX0_learnHand_68 : decode cX0_learnHand 68 = .ok (.aload_n 0, 1) := by decide +kernel
theorem dX0_learnHand_69 : decode cX0_learnHand 69 = .ok (.getfield 27, 3) := by decide +kernel
theorem dX0_learnHand_72 : decode cX0_learnHand 72 = .ok (.iload_n 1, 1) := by decide +kernel
theorem dX0_learnHand_73 : decode cX0_learnHand 73 = .ok (.iconst 0, 1) := by decide +kernel
theorem dX0_learnHand_74 : decode cX0_learnHand 74 = .ok (.iastore, 1) := by decide +kernel
theorem dX0_learnHand_75 : decode cX0_learnHand 75 = .ok (.aload_n 0, 1) := by decide +kernel
theorem dX0_learnHand_76 : decode cX0_learnHand 76 = .ok (.dup, 1) := by decide +kernel
theorem dX0_learnHand_77 : decode cX0_learnHand 77 = .ok (.getfield 30, 3) := by decide +kernel
theorem dX0_learnHand_80 : decode cX0_learnHand 80 = .ok (.iconst 1, 1) := by decide +kernel
theorem dX0_learnHand_81 : decode cX0_learnHand 81 = .ok (.iadd, 1) := by decide +kernel
theorem dX0_learnHand_82 : decode cX0_learnHand 82 = .ok (.putfield 30, 3) := by decide +kernel
theorem dX0_learnHand_85 : decode cX0_learnHand 85 = .ok (.iload_n 1, 1) := by decide +kernel
theorem dX0_learnHand_86 : decode cX0_learnHand 86 = .ok (.ireturn, 1) := by decide +kernel
theorem dX0_isInHand_0 : decode cX0_isInHand 0 = .ok (.aload_n 0, 1) := by decide +kernel
theorem dX0_isInHand_1 : decode cX0_isInHand 1 = .ok (.getfield 20, 3) := by decide +kernel
theorem dX0_isInHand_4 : decode cX0_isInHand 4 = .ok (.iload_n 1, 1) := by decide +kernel
theorem dX0_isInHand_5 : decode cX0_isInHand 5 = .ok (.iaload, 1) := by decide +kernel
theorem dX0_isInHand_6 : decode cX0_isInHand 6 = .ok (.aload_n 0, 1) := by decide +kernel
theorem dX0_isInHand_7 : decode cX0_isInHand 7 = .ok (.getfield 13, 3) := by decide +kernel
theorem dX0_isInHand_10 : decode cX0_isInHand 10 = .ok (.if_icmp .eq 5, 3) := by decide +kernel
theorem dX0_isInHand_13 : decode cX0_isInHand 13 = .ok (.iconst 0, 1) := by decide +kernel
theorem dX0_isInHand_14 : decode cX0_isInHand 14 = .ok (.ireturn, 1) := by decide +kernel
theorem dX0_isInHand_15 : decode cX0_isInHand 15 = .ok (.iconst 0, 1) := by decide +kernel
theorem dX0_isInHand_16 : decode cX0_isInHand 16 = .ok (.istore_n 2, 1) := by decide +kernel
theorem dX0_isInHand_17 : decode cX0_isInHand 17 = .ok (.iload_n 2, 1) := by decide +kernel
theorem dX0_isInHand_18 : decode cX0_isInHand 18 = .ok (.aload_n 0, 1) := by decide +kernel
theorem dX0_isInHand_19 : decode cX0_isInHand 19 = .ok (.getfield 13, 3) := by decide +kernel
theorem dX0_isInHand_22 : decode cX0_isInHand 22 = .ok (.if_icmp .ge 31, 3) := by decide +kernel
theorem dX0_isInHand_25 : decode cX0_isInHand 25 = .ok (.aload_n 0, 1) := by decide +kernel
theorem dX0_isInHand_26 : decode cX0_isInHand 26 = .ok (.getfield 17, 3) := by decide +kernel
theorem dX0_isInHand_29 : decode cX0_isInHand 29 = .ok (.iload_n 1, 1) := by decide +kernel
theorem dX0_isInHand_30 : decode cX0_isInHand 30 = .ok (.bipush 60, 2) := by decide +kernel
theorem dX0_isInHand_32 : decode cX0_isInHand 32 = .ok (.imul, 1) := by decide +kernel
theorem dX0_isInHand_33 : decode cX0_isInHand 33 = .ok (.iload_n 2, 1) := by decide +kernel
theorem dX0_isInHand_34 : decode cX0_isInHand 34 = .ok (.iadd, 1) := by decide +kernel
theorem dX0_isInHand_35 : decode cX0_isInHand 35 = .ok (.baload, 1) := by decide +kernel
theorem dX0_isInHand_36 : decode cX0_isInHand 36 = .ok (.aload_n 0, 1) := by decide +kernel
theorem dX0_isInHand_37 : decode cX0_isInHand 37 = .ok (.getfield 9, 3) := by decide +kernel
theorem dX0_isInHand_40 : decode cX0_isInHand 40 = .ok (.iload_n 2, 1) := by decide +kernel
theorem dX0_isInHand_41 : decode cX0_isInHand 41 = .ok (.baload, 1) := by decide +kernel
theorem dX0_isInHand_42 : decode cX0_isInHand 42 = .ok (.if_icmp .eq 5, 3) := by decide +kernel
theorem dX0_isInHand_45 : decode cX0_isInHand 45 = .ok (.iconst 0, 1) := by decide +kernel
theorem dX0_isInHand_46 : decode cX0_isInHand 46 = .ok (.ireturn, 1) := by decide +kernel
theorem dX0_isInHand_47 : decode cX0_isInHand 47 = .ok (.iinc 2 1, 3) := by decide +kernel
theorem dX0_isInHand_50 : decode cX0_isInHand 50 = .ok (.goto (-33), 3) := by decide +kernel
theorem dX0_isInHand_53 : decode cX0_isInHand 53 = .ok (.iconst 1, 1) := by decide +kernel
theorem dX0_isInHand_54 : decode cX0_isInHand 54 = .ok (.ireturn, 1) := by decide +kernel
theorem dX0_isKnown_0 : decode cX0_isKnown 0 = .ok (.iload_n 1, 1) := by decide +kernel
theorem dX0_isKnown_1 : decode cX0_isKnown 1 = .ok (.ifCond .lt 15, 3) := by decide +kernel
theorem dX0_isKnown_4 : decode cX0_isKnown 4 = .ok (.iload_n 1, 1) := by decide +kernel
theorem dX0_isKnown_5 : decode cX0_isKnown 5 = .ok (.aload_n 0, 1) := by decide +kernel
theorem dX0_isKnown_6 : decode cX0_isKnown 6 = .ok (.getfield 30, 3) := by decide +kernel
theorem dX0_isKnown_9 : decode cX0_isKnown 9 = .ok (.if_icmp .ge 7, 3) := by decide +kernel
theorem dX0_isKnown_12 : decode cX0_isKnown 12 = .ok (.iconst 1, 1) := by decide +kernel
theorem dX0_isKnown_13 : decode cX0_isKnown 13 = .ok (.goto 4, 3) := by decide +kernel
theorem dX0_isKnown_16 : decode cX0_isKnown 16 = .ok (.iconst 0, 1) := by decide +kernel
theorem dX0_isKnown_17 : decode cX0_isKnown 17 = .ok (.ireturn, 1) := by decide +kernel
theorem dX0_isGiven_0 : decode cX0_isGiven 0 = .ok (.aload_n 0, 1) := by decide +kernel
theorem dX0_isGiven_1 : decode cX0_isGiven 1 = .ok (.getfield 24, 3) := by decide +kernel
theorem dX0_isGiven_4 : decode cX0_isGiven 4 = .ok (.iload_n 1, 1) := by decide +kernel
theorem dX0_isGiven_5 : decode cX0_isGiven 5 = .ok (.iaload, 1) := by decide +kernel
theorem dX0_isGiven_6 : decode cX0_isGiven 6 = .ok (.ifCond .eq 7, 3) := by decide +kernel
theorem dX0_isGiven_9 : decode cX0_isGiven 9 = .ok (.iconst 1, 1) := by decide +kernel
theorem dX0_isGiven_10 : decode cX0_isGiven 10 = .ok (.goto 4, 3) := by decide +kernel
theorem dX0_isGiven_13 : decode cX0_isGiven 13 = .ok (.iconst 0, 1) := by decide +kernel
theorem dX0_isGiven_14 : decode cX0_isGiven 14 = .ok (.ireturn, 1) := by decide +kernel
set_option maxRecDepth 20000 in
theorem ggX0_isMissing_X0_isGiven : GoodIn wsX0_isMissing wsX0_isGiven := goodIn_r _ [6, 7, 8, 9, 10, 11, 12, 13, 14] (by decide +kernel) (by decide +kernel)
set_option maxRecDepth 20000 in
theorem gX0_isMissing_X0_isGiven : GoodIn wsX0_isMissing (wsV RX0 37 RX0 yX0_isGiven wsX0_isGiven) := goodIn_app (goodIn_of _ (by decide +kernel)) ggX0_isMissing_X0_isGiven
theorem dX0_isMissing_0 : decode cX0_isMissing 0 = .ok (.aload_n 0, 1) := by decide +kernel
theorem dX0_isMissing_1 : decode cX0_isMissing 1 = .ok (.getfield 27, 3) := by decide +kernel
theorem dX0_isMissing_4 : decode cX0_isMissing 4 = .ok (.iload_n 1, 1) := by decide +kernel
theorem dX0_isMissing_5 : decode cX0_isMissing 5 = .ok (.iaload, 1) := by decide +kernel
theorem dX0_isMissing_6 : decode cX0_isMissing 6 = .ok (.ifCond .eq 15, 3) := by decide +kernel
theorem dX0_isMissing_9 : decode cX0_isMissing 9 = .ok (.aload_n 0, 1) := by decide +kernel
theorem dX0_isMissing_10 : decode cX0_isMissing 10 = .ok (.iload_n 1, 1) := by decide +kernel
theorem dX0_isMissing_11 : decode cX0_isMissing 11 = .ok (.invokevirtual 37, 3) := by decide +kernel
theorem dX0_isMissing_14 : decode cX0_isMissing 14 = .ok (.ifCond .ne 7, 3) := by decide +kernel
theorem dX0_isMissing_17 : decode cX0_isMissing 17 = .ok (.iconst 1, 1) := by decide +kernel
theorem dX0_isMissing_18 : decode cX0_isMissing 18 = .ok (.goto 4, 3) := by decide +kernel
theorem dX0_isMissing_21 : decode cX0_isMissing 21 = .ok (.iconst 0, 1) := by decide +kernel
theorem dX0_isMissing_22 : decode cX0_isMissing 22 = .ok (.ireturn, 1) := by decide +kernel
set_option maxRecDepth 20000 in
theorem ggX0_firstMissingFrom_X0_isMissing : GoodIn wsX0_firstMissingFrom wsX0_isMissing := goodIn_r _ [6, 7, 8, 9, 10, 5, 11, 12, 13, 14, 15, 16, 17, 18, 19] (by decide +kernel) (by decide +kernel)
set_option maxRecDepth 20000 in
theorem gX0_firstMissingFrom_X0_isMissing : GoodIn wsX0_firstMissingFrom (wsV RX0 66 RX0 yX0_isMissing wsX0_isMissing) := goodIn_app (goodIn_of _ (by decide +kernel)) ggX0_firstMissingFrom_X0_isMissing
theorem dX0_firstMissingFrom_0 : decode cX0_firstMissingFrom 0 = .ok (.iload_n 1, 1) := by decide +kernel
theorem dX0_firstMissingFrom_1 : decode cX0_firstMissingFrom 1 = .ok (.istore_n 2, 1) := by decide +kernel
theorem dX0_firstMissingFrom_2 : decode cX0_firstMissingFrom 2 = .ok (.iload_n 2, 1) := by decide +kernel
theorem dX0_firstMissingFrom_3 : decode cX0_firstMissingFrom 3 = .ok (.aload_n 0, 1) := by decide +kernel
theorem dX0_firstMissingFrom_4 : decode cX0_firstMissingFrom 4 = .ok (.getfield 30, 3) := by decide +kernel
theorem dX0_firstMissingFrom_7 : decode cX0_firstMissingFrom 7 = .ok (.if_icmp .ge 19, 3) := by decide +kernel
theorem dX0_firstMissingFrom_10 : decode cX0_firstMissingFrom 10 = .ok (.aload_n 0, 1) := by decide +kernel
theorem dX0_firstMissingFrom_11 : decode cX0_firstMissingFrom 11 = .ok (.iload_n 2, 1) := by decide +kernel
theorem dX0_firstMissingFrom_12 : decode cX0_firstMissingFrom 12 = .ok (.invokevirtual 66, 3) := by decide +kernel
theorem dX0_firstMissingFrom_15 : decode cX0_firstMissingFrom 15 = .ok (.ifCond .eq 5, 3) := by decide +kernel
theorem dX0_firstMissingFrom_18 : decode cX0_firstMissingFrom 18 = .ok (.iload_n 2, 1) := by decide +kernel
theorem dX0_firstMissingFrom_19 : decode cX0_firstMissingFrom 19 = .ok (.ireturn, 1) := by decide +kernel
theorem dX0_firstMissingFrom_20 : decode cX0_firstMissingFrom 20 = .ok (.iinc 2 1, 3) := by decide +kernel
theorem dX0_firstMissingFrom_23 : decode cX0_firstMissingFrom 23 = .ok (.goto (-21), 3) := by decide +kernel
theorem dX0_firstMissingFrom_26 : decode cX0_firstMissingFrom 26 = .ok (.iconst (-1), 1) := by decide +kernel
theorem dX0_firstMissingFrom_27 : decode cX0_firstMissingFrom 27 = .ok (.ireturn, 1) := by decide +kernel
set_option maxRecDepth 20000 in
theorem ggX0_countGiven_X0_isGiven : GoodIn wsX0_countGiven wsX0_isGiven := goodIn_r _ [6, 7, 8, 9, 10, 11, 12, 13, 14] (by decide +kernel) (by decide +kernel)
set_option maxRecDepth 20000 in
theorem gX0_countGiven_X0_isGiven : GoodIn wsX0_countGiven (wsV RX0 37 RX0 yX0_isGiven wsX0_isGiven) := goodIn_app (goodIn_of _ (by decide +kernel)) ggX0_countGiven_X0_isGiven
theorem dX0_countGiven_0 : decode cX0_countGiven 0 = .ok (.iconst 0, 1) := by decide +kernel
theorem dX0_countGiven_1 : decode cX0_countGiven 1 = .ok (.istore_n 1, 1) := by decide +kernel
theorem dX0_countGiven_2 : decode cX0_countGiven 2 = .ok (.iconst 0, 1) := by decide +kernel
theorem dX0_countGiven_3 : decode cX0_countGiven 3 = .ok (.istore_n 2, 1) := by decide +kernel
theorem dX0_countGiven_4 : decode cX0_countGiven 4 = .ok (.iload_n 2, 1) := by decide +kernel
theorem dX0_countGiven_5 : decode cX0_countGiven 5 = .ok (.aload_n 0, 1) := by decide +kernel
theorem dX0_countGiven_6 : decode cX0_countGiven 6 = .ok (.getfield 30, 3) := by decide +kernel
theorem dX0_countGiven_9 : decode cX0_countGiven 9 = .ok (.if_icmp .ge 20, 3) := by decide +kernel
theorem dX0_countGiven_12 : decode cX0_countGiven 12 = .ok (.aload_n 0, 1) := by decide +kernel
theorem dX0_countGiven_13 : decode cX0_countGiven 13 = .ok (.iload_n 2, 1) := by decide +kernel
theorem dX0_countGiven_14 : decode cX0_countGiven 14 = .ok (.invokevirtual 37, 3) := by decide +kernel
theorem dX0_countGiven_17 : decode cX0_countGiven 17 = .ok (.ifCond .eq 6, 3) := by decide +kernel
theorem dX0_countGiven_20 : decode cX0_countGiven 20 = .ok (.iinc 1 1, 3) := by decide +kernel
theorem dX0_countGiven_23 : decode cX0_countGiven 23 = .ok (.iinc 2 1, 3) := by decide +kernel
theorem dX0_countGiven_26 : decode cX0_countGiven 26 = .ok (.goto (-22), 3) := by decide +kernel
theorem dX0_countGiven_29 : decode cX0_countGiven 29 = .ok (.iload_n 1, 1) := by decide +kernel
theorem dX0_countGiven_30 : decode cX0_countGiven 30 = .ok (.ireturn, 1) := by decide +kernel
set_option maxRecDepth 20000 in
theorem ggX0_countMissing_X0_isMissing : GoodIn wsX0_countMissing wsX0_isMissing := goodIn_r _ [6, 7, 8, 9, 10, 5, 11, 12, 13, 14, 15, 16, 17, 18, 19] (by decide +kernel) (by decide +kernel)
set_option maxRecDepth 20000 in
theorem gX0_countMissing_X0_isMissing : GoodIn wsX0_countMissing (wsV RX0 66 RX0 yX0_isMissing wsX0_isMissing) := goodIn_app (goodIn_of _ (by decide +kernel)) ggX0_countMissing_X0_isMissing
theorem dX0_countMissing_0 : decode cX0_countMissing 0 = .ok (.iconst 0, 1) := by decide +kernel
theorem dX0_countMissing_1 : decode cX0_countMissing 1 = .ok (.istore_n 1, 1) := by decide +kernel
theorem dX0_countMissing_2 : decode cX0_countMissing 2 = .ok (.iconst 0, 1) := by decide +kernel
theorem dX0_countMissing_3 : decode cX0_countMissing 3 = .ok (.istore_n 2, 1) := by decide +kernel
theorem dX0_countMissing_4 : decode cX0_countMissing 4 = .ok (.iload_n 2, 1) := by decide +kernel
theorem dX0_countMissing_5 : decode cX0_countMissing 5 = .ok (.aload_n 0, 1) := by decide +kernel
theorem dX0_countMissing_6 : decode cX0_countMissing 6 = .ok (.getfield 30, 3) := by decide +kernel
theorem dX0_countMissing_9 : decode cX0_countMissing 9 = .ok (.if_icmp .ge 20, 3) := by decide +kernel
theorem dX0_countMissing_12 : decode cX0_countMissing 12 = .ok (.aload_n 0, 1) := by decide +kernel
theorem dX0_countMissing_13 : decode cX0_countMissing 13 = .ok (.iload_n 2, 1) := by decide +kernel
theorem dX0_countMissing_14 : decode cX0_countMissing 14 = .ok (.invokevirtual 66, 3) := by decide +kernel
theorem dX0_countMissing_17 : decode cX0_countMissing 17 = .ok (.ifCond .eq 6, 3) := by decide +kernel
theorem dX0_countMissing_20 : decode cX0_countMissing 20 = .ok (.iinc 1 1, 3) := by decide +kernel
theorem dX0_countMissing_23 : decode cX0_countMissing 23 = .ok (.iinc 2 1, 3) := by decide +kernel
theorem dX0_countMissing_26 : decode cX0_countMissing 26 = .ok (.goto (-22), 3) := by decide +kernel
theorem dX0_countMissing_29 : decode cX0_countMissing 29 = .ok (.iload_n 1, 1) := by decide +kernel
theorem dX0_countMissing_30 : decode cX0_countMissing 30 = .ok (.ireturn, 1) := by decide +kernel
set_option maxRecDepth 20000 in
theorem ggX0_countGivingsInVain_X0_isGiven : GoodIn wsX0_countGivingsInVain wsX0_isGiven := goodIn_r _ [7, 2, 8, 9, 10, 11, 12, 13, 14] (by decide +kernel) (by decide +kernel)
set_option maxRecDepth 20000 in
theorem gX0_countGivingsInVain_X0_isGiven : GoodIn wsX0_countGivingsInVain (wsV RX0 37 RX0 yX0_isGiven wsX0_isGiven) := goodIn_app (goodIn_of _ (by decide +kernel)) ggX0_countGivingsInVain_X0_isGiven
theorem dX0_countGivingsInVain_0 : decode cX0_countGivingsInVain 0 = .ok (.iconst 0, 1) := by decide +kernel
theorem dX0_countGivingsInVain_1 : decode cX0_countGivingsInVain 1 = .ok (.istore_n 1, 1) := by decide +kernel
theorem dX0_countGivingsInVain_2 : decode cX0_countGivingsInVain 2 = .ok (.iconst 0, 1) := by decide +kernel
theorem dX0_countGivingsInVain_3 : decode cX0_countGivingsInVain 3 = .ok (.istore_n 2, 1) := by decide +kernel
theorem dX0_countGivingsInVain_4 : decode cX0_countGivingsInVain 4 = .ok (.iload_n 2, 1) := by decide +kernel
theorem dX0_countGivingsInVain_5 : decode cX0_countGivingsInVain 5 = .ok (.aload_n 0, 1) := by decide +kernel
theorem dX0_countGivingsInVain_6 : decode cX0_countGivingsInVain 6 = .ok (.getfield 30, 3) := by decide +kernel
theorem dX0_countGivingsInVain_9 : decode cX0_countGivingsInVain 9 = .ok (.if_icmp .ge 28, 3) := by decide +kernel
theorem dX0_countGivingsInVain_12 : decode cX0_countGivingsInVain 12 = .ok (.aload_n 0, 1) := by decide +kernel
theorem dX0_countGivingsInVain_13 : decode cX0_countGivingsInVain 13 = .ok (.iload_n 2, 1) := by decide +kernel
theorem dX0_countGivingsInVain_14 : decode cX0_countGivingsInVain 14 = .ok (.invokevirtual 37, 3) := by decide +kernel
theorem dX0_countGivingsInVain_17 : decode cX0_countGivingsInVain 17 = .ok (.ifCond .eq 14, 3) := by decide +kernel
theorem dX0_countGivingsInVain_20 : decode cX0_countGivingsInVain 20 = .ok (.iload_n 1, 1) := by decide +kernel
theorem dX0_countGivingsInVain_21 : decode cX0_countGivingsInVain 21 = .ok (.aload_n 0, 1) := by decide +kernel
theorem dX0_countGivingsInVain_22 : decode cX0_countGivingsInVain 22 = .ok (.getfield 24, 3) := by decide +kernel
theorem dX0_countGivingsInVain_25 : decode cX0_countGivingsInVain 25 = .ok (.iload_n 2, 1) := by decide +kernel
theorem dX0_countGivingsInVain_26 : decode cX0_countGivingsInVain 26 = .ok (.iaload, 1) := by decide +kernel
theorem dX0_countGivingsInVain_27 : decode cX0_countGivingsInVain 27 = .ok (.iconst 1, 1) := by decide +kernel
theorem dX0_countGivingsInVain_28 : decode cX0_countGivingsInVain 28 = .ok (.isub, 1) := by decide +kernel
theorem dX0_countGivingsInVain_29 : decode cX0_countGivingsInVain 29 = .ok (.iadd, 1) := by decide +kernel
theorem dX0_countGivingsInVain_30 : decode cX0_countGivingsInVain 30 = .ok (.istore_n 1, 1) := by decide +kernel
theorem dX0_countGivingsInVain_31 : decode cX0_countGivingsInVain 31 = .ok (.iinc 2 1, 3) := by decide +kernel
theorem dX0_countGivingsInVain_34 : decode cX0_countGivingsInVain 34 = .ok (.goto (-30), 3) := by decide +kernel
theorem dX0_countGivingsInVain_37 : decode cX0_countGivingsInVain 37 = .ok (.iload_n 1, 1) := by decide +kernel
theorem dX0_countGivingsInVain_38 : decode cX0_countGivingsInVain 38 = .ok (.ireturn, 1) := by decide +kernel
theorem dX1_init_0 : decode cX1_init 0 = .ok (.aload_n 0, 1) := by decide +kernel
theorem dX1_init_1 : decode cX1_init 1 = .ok (.invokespecial 1, 3) := by decide +kernel
theorem dX1_init_4 : decode cX1_init 4 = .ok (.aload_n 0, 1) := by decide +kernel
theorem dX1_init_5 : decode cX1_init 5 = .ok (.bipush 60, 2) := by decide +kernel
theorem dX1_init_7 : decode cX1_init 7 = .ok (.newarray .int, 2) := by decide +kernel
theorem dX1_init_9 : decode cX1_init 9 = .ok (.putfield 7, 3) := by decide +kernel
theorem dX1_init_12 : decode cX1_init 12 = .ok (.aload_n 0, 1) := by decide +kernel
theorem dX1_init_13 : decode cX1_init 13 = .ok (.sipush 12000, 3) := by decide +kernel
theorem dX1_init_16 : decode cX1_init 16 = .ok (.newarray .int, 2) := by decide +kernel
theorem dX1_init_18 : decode cX1_init 18 = .ok (.putfield 13, 3) := by decide +kernel
theorem dX1_init_21 : decode cX1_init 21 = .ok (.aload_n 0, 1) := by decide +kernel
theorem dX1_init_22 : decode cX1_init 22 = .ok (.sipush 200, 3) := by decide +kernel
theorem dX1_init_25 : decode cX1_init 25 = .ok (.newarray .int, 2) := by decide +kernel
theorem dX1_init_27 : decode cX1_init 27 = .ok (.putfield 16, 3) := by decide +kernel
theorem dX1_init_30 : decode cX1_init 30 = .ok (.aload_n 0, 1) := by decide +kernel
theorem dX1_init_31 : decode cX1_init 31 = .ok (.sipush 200, 3) := by decide +kernel
theorem dX1_init_34 : decode cX1_init 34 = .ok (.newarray .int, 2) := by decide +kernel
theorem dX1_init_36 : decode cX1_init 36 = .ok (.putfield 19, 3) := by decide +kernel
theorem dX1_init_39 : decode cX1_init 39 = .ok (.aload_n 0, 1) := by decide +kernel
theorem dX1_init_40 : decode cX1_init 40 = .ok (.sipush 200, 3) := by decide +kernel
theorem dX1_init_43 : decode cX1_init 43 = .ok (.newarray .int, 2) := by decide +kernel
theorem dX1_init_45 : decode cX1_init 45 = .ok (.putfield 22, 3) := by decide +kernel
theorem dX1_init_48 : decode cX1_init 48 = .ok (.return_, 1) := by decide +kernel
theorem dX1_put_0 : decode cX1_put 0 = .ok (.iload_n 3, 1) := by decide +kernel
theorem dX1_put_1 : decode cX1_put 1 = .ok (.iconst 1, 1) := by decide +kernel
theorem dX1_put_2 : decode cX1_put 2 = .ok (.if_icmp .lt 20, 3) := by decide +kernel
theorem dX1_put_5 : decode cX1_put 5 = .ok (.iload_n 3, 1) := by decide +kernel
theorem dX1_put_6 : decode cX1_put 6 = .ok (.bipush 8, 2) := by decide +kernel
theorem dX1_put_8 : decode cX1_put 8 = .ok (.if_icmp .gt 14, 3) := by decide +kernel
theorem dX1_put_11 : decode cX1_put 11 = .ok (.aload_n 0, 1) := by decide +kernel
theorem dX1_put_12 : decode cX1_put 12 = .ok (.getfield 25, 3) := by decide +kernel
theorem dX1_put_15 : decode cX1_put 15 = .ok (.iload_n 3, 1) := by decide +kernel
theorem dX1_put_16 : decode cX1_put 16 = .ok (.iadd, 1) := by decide +kernel
theorem dX1_put_17 : decode cX1_put 17 = .ok (.bipush 60, 2) := by decide +kernel
theorem dX1_put_19 : decode cX1_put 19 = .ok (.if_icmp .le 5, 3) := by decide +kernel
theorem dX1_put_22 : decode cX1_put 22 = .ok (.iconst 0, 1) := by decide +kernel
theorem dX1_put_23 : decode cX1_put 23 = .ok (.ireturn, 1) := by decide +kernel
theorem dX1_put_24 : decode cX1_put 24 = .ok (.iconst 0, 1) := by decide +kernel
theorem dX1_put_25 : decode cX1_put 25 = .ok (.istore 4, 2) := by decide +kernel
theorem dX1_put_27 : decode cX1_put 27 = .ok (.iload 4, 2) := by decide +kernel
theorem dX1_put_29 : decode cX1_put 29 = .ok (.iload_n 3, 1) := by decide +kernel
theorem dX1_put_30 : decode cX1_put 30 = .ok (.if_icmp .ge 56, 3) := by decide +kernel
theorem dX1_put_33 : decode cX1_put 33 = .ok (.lload_n 1, 1) := by decide +kernel
theorem dX1_put_34 : decode cX1_put 34 = .ok (.lstore 5, 2) := by decide +kernel
theorem dX1_put_36 : decode cX1_put 36 = .ok (.iload 4, 2) := by decide +kernel
theorem dX1_put_38 : decode cX1_put 38 = .ok (.iconst 1, 1) := by decide +kernel
theorem dX1_put_39 : decode cX1_put 39 = .ok (.iadd, 1) := by decide +kernel
theorem dX1_put_40 : decode cX1_put 40 = .ok (.istore 7, 2) := by decide +kernel
theorem dX1_put_42 : decode cX1_put 42 = .ok (.iload 7, 2) := by decide +kernel
theorem dX1_put_44 : decode cX1_put 44 = .ok (.iload_n 3, 1) := by decide +kernel
theorem dX1_put_45 : decode cX1_put 45 = .ok (.if_icmp .ge 16, 3) := by decide +kernel
theorem dX1_put_48 : decode cX1_put 48 = .ok (.lload 5, 2) := by decide +kernel
theorem dX1_put_50 : decode cX1_put 50 = .ok (.bipush 8, 2) := by decide +kernel
theorem dX1_put_52 : decode cX1_put 52 = .ok (.lshr, 1) := by decide +kernel
theorem dX1_put_53 : decode cX1_put 53 = .ok (.lstore 5, 2) := by decide +kernel
theorem dX1_put_55 : decode cX1_put 55 = .ok (.iinc 7 1, 3) := by decide +kernel
theorem dX1_put_58 : decode cX1_put 58 = .ok (.goto (-16), 3) := by decide +kernel
theorem dX1_put_61 : decode cX1_put 61 = .ok (.aload_n 0, 1) := by decide +kernel
theorem dX1_put_62 : decode cX1_put 62 = .ok (.getfield 7, 3) := by decide +kernel
theorem dX1_put_65 : decode cX1_put 65 = .ok (.aload_n 0, 1) := by decide +kernel
theorem dX1_put_66 : decode cX1_put 66 = .ok (.getfield 25, 3) := by decide +kernel
theorem dX1_put_69 : decode cX1_put 69 = .ok (.iload 4, 2) := by decide +kernel
theorem dX1_put_71 : decode cX1_put 71 = .ok (.iadd, 1) := by decide +kernel
theorem dX1_put_72 : decode cX1_put 72 = .ok (.lload 5, 2) := by decide +kernel
theorem dX1_put_74 : decode cX1_put 74 = .ok (.ldc2_w 29, 3) := by decide +kernel
theorem dX1_put_77 : decode cX1_put 77 = .ok (.land, 1) := by decide +kernel
theorem dX1_put_78 : decode cX1_put 78 = .ok (.l2i, 1) := by decide +kernel
theorem dX1_put_79 : decode cX1_put 79 = .ok (.iastore, 1) := by decide +kernel
theorem dX1_put_80 : decode cX1_put 80 = .ok (.iinc 4 1, 3) := by decide +kernel
theorem dX1_put_83 : decode cX1_put 83 = .ok (.goto (-56), 3) := by decide +kernel
theorem dX1_put_86 : decode cX1_put 86 = .ok (.aload_n 0, 1) := by decide +kernel
theorem dX1_put_87 : decode cX1_put 87 = .ok (.aload_n 0, 1) := by decide +kernel
theorem dX1_put_88 : decode cX1_put 88 = .ok (.getfield 25, 3) := by decide +kernel
theorem dX1_put_91 : decode cX1_put 91 = .ok (.iload_n 3, 1) := by decide +kernel
theorem dX1_put_92 : decode cX1_put 92 = .ok (.iadd, 1) := by decide +kernel
theorem dX1_put_93 : decode cX1_put 93 = .ok (.putfield 25, 3) := by decide +kernel
theorem dX1_put_96 : decode cX1_put 96 = .ok (.iconst 1, 1) := by decide +kernel
theorem dX1_put_97 : decode cX1_put 97 = .ok (.ireturn, 1) := by decide +kernel
theorem dX1_place_0 : decode cX1_place 0 = .ok (.iconst (-1), 1) := by decide +kernel
theorem dX1_place_1 : decode cX1_place 1 = .ok (.istore_n 1, 1) := by decide +kernel
theorem dX1_place_2 : decode cX1_place 2 = .ok (.iconst 0, 1) := by decide +kernel
theorem dX1_place_3 : decode cX1_place 3 = .ok (.istore_n 2, 1) := by decide +kernel
theorem dX1_place_4 : decode cX1_place 4 = .ok (.iload_n 2, 1) := by decide +kernel
theorem dX1_place_5 : decode cX1_place 5 = .ok (.aload_n 0, 1) := by decide +kernel
theorem dX1_place_6 : decode cX1_place 6 = .ok (.getfield 31, 3) := by decide +kernel
theorem dX1_place_9 : decode cX1_place 9 = .ok (.if_icmp .ge 88, 3) := by decide +kernel
theorem dX1_place_12 : decode cX1_place 12 = .ok (.aload_n 0, 1) := by decide +kernel
theorem dX1_place_13 : decode cX1_place 13 = .ok (.getfield 16, 3) := by decide +kernel
theorem dX1_place_16 : decode cX1_place 16 = .ok (.iload_n 2, 1) := by decide +kernel
theorem dX1_place_17 : decode cX1_place 17 = .ok (.iaload, 1) := by decide +kernel
theorem dX1_place_18 : decode cX1_place 18 = .ok (.aload_n 0, 1) := by decide +kernel
theorem dX1_place_19 : decode cX1_place 19 = .ok (.getfield 25, 3) := by decide +kernel
theorem dX1_place_22 : decode cX1_place 22 = .ok (.if_icmp .ne 7, 3) := by decide +kernel
theorem dX1_place_25 : decode cX1_place 25 = .ok (.iconst 1, 1) := by decide +kernel
theorem dX1_place_26 : decode cX1_place 26 = .ok (.goto 4, 3) := by decide +kernel
theorem dX1_place_29 : decode cX1_place 29 = .ok (.iconst 0, 1) := by decide +kernel
theorem dX1_place_30 : decode cX1_place 30 = .ok (.istore_n 3, 1) := by decide +kernel
theorem dX1_place_31 : decode cX1_place 31 = .ok (.iconst 0, 1) := by decide +kernel
theorem dX1_place_32 : decode cX1_place 32 = .ok (.istore 4, 2) := by decide +kernel
theorem dX1_place_34 : decode cX1_place 34 = .ok (.iload 4, 2) := by decide +kernel
theorem dX1_place_36 : decode cX1_place 36 = .ok (.aload_n 0, 1) := by decide +kernel
theorem dX1_place_37 : decode cX1_place 37 = .ok (.getfield 25, 3) := by decide +kernel
theorem dX1_place_40 : decode cX1_place 40 = .ok (.if_icmp .ge 41, 3) := by decide +kernel
theorem dX1_place_43 : decode cX1_place 43 = .ok (.iload_n 3, 1) := by decide +kernel
theorem dX1_place_44 : decode cX1_place 44 = .ok (.ifCond .eq 29, 3) := by decide +kernel
theorem dX1_place_47 : decode cX1_place 47 = .ok (.aload_n 0, 1) := by decide +kernel
theorem dX1_place_48 : decode cX1_place 48 = .ok (.getfield 13, 3) := by decide +kernel
theorem dX1_place_51 : decode cX1_place 51 = .ok (.bipush 60, 2) := by decide +kernel
theorem dX1_place_53 : decode cX1_place 53 = .ok (.iload_n 2, 1) := by decide +kernel
theorem dX1_place_54 : decode cX1_place 54 = .ok (.imul, 1) := by decide +kernel
theorem dX1_place_55 : decode cX1_place 55 = .ok (.iload 4, 2) := by decide +kernel
theorem dX1_place_57 : decode cX1_place 57 = .ok (.iadd, 1) := by decide +kernel
theorem dX1_place_58 : decode cX1_place 58 = .ok (.iaload, 1) := by decide +kernel
theorem dX1_place_59 : decode cX1_place 59 = .ok (.aload_n 0, 1) := by decide +kernel
theorem dX1_place_60 : decode cX1_place 60 = .ok (.getfield 7, 3) := by decide +kernel
theorem dX1_place_63 : decode cX1_place 63 = .ok (.iload 4, 2) := by decide +kernel
theorem dX1_place_65 : decode cX1_place 65 = .ok (.iaload, 1) := by decide +kernel
theorem dX1_place_66 : decode cX1_place 66 = .ok (.if_icmp .ne 7, 3) := by decide +kernel
theorem dX1_place_69 : decode cX1_place 69 = .ok (.iconst 1, 1) := by decide +kernel
theorem dX1_place_70 : decode cX1_place 70 = .ok (.goto 4, 3) := by decide +kernel
theorem dX1_place_73 : decode cX1_place 73 = .ok (.iconst 0, 1) := by decide +kernel
theorem dX1_place_74 : decode cX1_place 74 = .ok (.istore_n 3, 1) := by decide +kernel
theorem dX1_place_75 : decode cX1_place 75 = .ok (.iinc 4 1, 3) := by decide +kernel
theorem dX1_place_78 : decode cX1_place 78 = .ok (.goto (-44), 3) := by decide +kernel
theorem dX1_place_81 : decode cX1_place 81 = .ok (.iload_n 3, 1) := by decide +kernel
theorem dX1_place_82 : decode cX1_place 82 = .ok (.ifCond .eq 7, 3) := by decide +kernel
theorem dX1_place_85 : decode cX1_place 85 = .ok (.iload_n 2, 1) := by decide +kernel
theorem dX1_place_86 : decode cX1_place 86 = .ok (.goto 4, 3) := by decide +kernel
theorem dX1_place_89 : decode cX1_place 89 = .ok (.iload_n 1, 1) := by decide +kernel
theorem dX1_place_90 : decode cX1_place 90 = .ok (.istore_n 1, 1) := by decide +kernel
theorem dX1_place_91 : decode cX1_place 91 = .ok (.iinc 2 1, 3) := by decide +kernel
theorem dX1_place_94 : decode cX1_place 94 = .ok (.goto (-90), 3) := by decide +kernel
theorem dX1_place_97 : decode cX1_place 97 = .ok (.iload_n 1, 1) := by decide +kernel
theorem dX1_place_98 : decode cX1_place 98 = .ok (.ireturn, 1) := by decide +kernel
set_option maxRecDepth 20000 in
theorem ggX1_known_X1_place : GoodIn wsX1_known wsX1_place := goodIn_r _ [12, 1, 2, 3, 4, 5, 13, 14, 15, 16, 17, 18, 19] (by decide +kernel) (by decide +kernel)
set_option maxRecDepth 20000 in
theorem gX1_known_X1_place : GoodIn wsX1_known (wsV RX1 34 RX1 yX1_place wsX1_place) := goodIn_app (goodIn_of _ (by decide +kernel)) ggX1_known_X1_place
theorem dX1_known_0 : decode cX1_known 0 = .ok (.aload_n 0, 1) := by decide +kernel
theorem dX1_known_1 : decode cX1_known 1 = .ok (.invokevirtual 34, 3) := by decide +kernel
theorem dX1_known_4 : decode cX1_known 4 = .ok (.istore_n 1, 1) := by decide +kernel
theorem dX1_known_5 : decode cX1_known 5 = .ok (.iload_n 1, 1) := by decide +kernel
theorem dX1_known_6 : decode cX1_known 6 = .ok (.ifCond .ge 19, 3) := by decide +kernel
theorem dX1_known_9 : decode cX1_known 9 = .ok (.aload_n 0, 1) := by decide +kernel
theorem dX1_known_10 : decode cX1_known 10 = .ok (.getfield 31, 3) := by decide +kernel
theorem dX1_known_13 : decode cX1_known 13 = .ok (.sipush 200, 3) := by decide +kernel
theorem dX1_known_16 : decode cX1_known 16 = .ok (.if_icmp .ne 9, 3) := by decide +kernel
theorem dX1_known_19 : decode cX1_known 19 = .ok (.bipush (-2), 2) := by decide +kernel
theorem dX1_known_21 : decode cX1_known 21 = .ok (.istore_n 1, 1) := by decide +kernel
theorem dX1_known_22 : decode cX1_known 22 = .ok (.goto 79, 3) := by decide +kernel
theorem dX1_known_25 : decode cX1_known 25 = .ok (.iload_n 1, 1) := by decide +kernel
theorem dX1_known_26 : decode cX1_known 26 = .ok (.ifCond .ge 75, 3) := by decide +kernel
theorem dX1_known_29 : decode cX1_known 29 = .ok (.aload_n 0, 1) := by decide +kernel
theorem dX1_known_30 : decode cX1_known 30 = .ok (.getfield 31, 3) := by decide +kernel
theorem dX1_known_33 : decode cX1_known 33 = .ok (.istore_n 1, 1) := by decide +kernel
theorem dX1_known_34 : decode cX1_known 34 = .ok (.aload_n 0, 1) := by decide +kernel
theorem dX1_known_35 : decode cX1_known 35 = .ok (.getfield 16, 3) := by decide +kernel
theorem dX1_known_38 : decode cX1_known 38 = .ok (.iload_n 1, 1) := by decide +kernel
theorem dX1_known_39 : decode cX1_known 39 = .ok (.aload_n 0, 1) := by decide +kernel
theorem dX1_known_40 : decode cX1_known 40 = .ok (.getfield 25, 3) := by decide +kernel
theorem dX1_known_43 : decode cX1_known 43 = .ok (.iastore, 1) := by decide +kernel
theorem dX1_known_44 : decode cX1_known 44 = .ok (.iconst 0, 1) := by decide +kernel
theorem dX1_known_45 : decode cX1_known 45 = .ok (.istore_n 2, 1) := by decide +kernel
theorem dX1_known_46 : decode cX1_known 46 = .ok (.iload_n 2, 1) := by decide +kernel
theorem dX1_known_47 : decode cX1_known 47 = .ok (.aload_n 0, 1) := by decide +kernel
theorem dX1_known_48 : decode cX1_known 48 = .ok (.getfield 25, 3) := by decide +kernel
theorem dX1_known_51 : decode cX1_known 51 = .ok (.if_icmp .ge 26, 3) := by decide +kernel
theorem dX1_known_54 : decode cX1_known 54 = .ok (.aload_n 0, 1) := by decide +kernel
theorem dX1_known_55 : decode cX1_known 55 = .ok (.getfield 13, 3) := by decide +kernel
theorem dX1_known_58 : decode cX1_known 58 = .ok (.bipush 60, 2) := by decide +kernel
theorem dX1_known_60 : decode cX1_known 60 = .ok (.iload_n 1, 1) := by decide +kernel
theorem dX1_known_61 : decode cX1_known 61 = .ok (.imul, 1) := by decide +kernel
theorem dX1_known_62 : decode cX1_known 62 = .ok (.iload_n 2, 1) := by decide +kernel
theorem dX1_known_63 : decode cX1_known 63 = .ok (.iadd, 1) := by decide +kernel
theorem dX1_known_64 : decode cX1_known 64 = .ok (.aload_n 0, 1) := by decide +kernel
theorem dX1_known_65 : decode cX1_known 65 = .ok (.getfield 7, 3) := by decide +kernel
theorem dX1_known_68 : decode cX1_known 68 = .ok (.iload_n 2, 1) := by decide +kernel
theorem dX1_known_69 : decode cX1_known 69 = .ok (.iaload, 1) := by decide +kernel
theorem dX1_known_70 : decode cX1_known 70 = .ok (.iastore, 1) := by decide +kernel
theorem dX1_known_71 : decode cX1_known 71 = .ok (.iinc 2 1, 3) := by decide +kernel
theorem dX1_known_74 : decode cX1_known 74 = .ok (.goto (-28), 3) := by decide +kernel
theorem dX1_known_77 : decode cX1_known 77 = .ok (.aload_n 0, 1) := by decide +kernel
theorem dX1_known_78 : decode cX1_known 78 = .ok (.getfield 19, 3) := by decide +kernel
theorem dX1_known_81 : decode cX1_known 81 = .ok (.iload_n 1, 1) := by decide +kernel
theorem dX1_known_82 : decode cX1_known 82 = .ok (.iconst 0, 1) := by decide +kernel
theorem dX1_known_83 : decode cX1_known 83 = .ok (.iastore, 1) := by decide +kernel
theorem dX1_known_84 : decode cX1_known 84 = .ok (.aload_n 0, 1) := by decide +kernel
theorem dX1_known_85 : decode cX1_known 85 = .ok (.getfield 22, 3) := by decide +kernel
theorem dX1_known_88 : decode cX1_known 88 = .ok (.iload_n 1, 1) := by decide +kernel
theorem dX1_known_89 : decode cX1_known 89 = .ok (.iconst 0, 1) := by decide +kernel
theorem dX1_known_90 : decode cX1_known 90 = .ok (.iastore, 1) := by decide +kernel
theorem dX1_known_91 : decode cX1_known 91 = .ok (.aload_n 0, 1) := by decide +kernel
theorem dX1_known_92 : decode cX1_known 92 = .ok (.dup, 1) := by decide +kernel
theorem dX1_known_93 : decode cX1_known 93 = .ok (.getfield 31, 3) := by decide +kernel
theorem dX1_known_96 : decode cX1_known 96 = .ok (.iconst 1, 1) := by decide +kernel
theorem dX1_known_97 : decode cX1_known 97 = .ok (.iadd, 1) := by decide +kernel
theorem dX1_known_98 : decode cX1_known 98 = .ok (.putfield 31, 3) := by decide +kernel
theorem dX1_known_101 : decode cX1_known 101 = .ok (.aload_n 0, 1) := by decide +kernel
theorem dX1_known_102 : decode cX1_known 102 = .ok (.iconst 0, 1) := by decide +kernel
theorem dX1_known_103 : decode cX1_known 103 = .ok (.putfield 25, 3) := by decide +kernel
theorem dX1_known_106 : decode cX1_known 106 = .ok (.iload_n 1, 1) := by decide +kernel
theorem dX1_known_107 : decode cX1_known 107 = .ok (.ireturn, 1) := by decide +kernel
set_option maxRecDepth 20000 in
theorem ggX1_give_X1_known : GoodIn wsX1_give wsX1_known := goodIn_r _ [7, 8, 9, 1, 10, 11, 2, 12, 13, 14, 15, 6, 16, 17, 18, 19, 20, 21, 22, 23] (by decide +kernel) (by decide +kernel)
set_option maxRecDepth 20000 in
theorem gX1_give_X1_known : GoodIn wsX1_give (wsV RX1 38 RX1 yX1_known wsX1_known) := goodIn_app (goodIn_of _ (by decide +kernel)) ggX1_give_X1_known
theorem dX1_give_0 : decode cX1_give 0 = .ok (.aload_n 0, 1) := by decide +kernel
theorem dX1_give_1 : decode cX1_give 1 = .ok (.getfield 25, 3) := by decide +kernel
theorem dX1_give_4 : decode cX1_give 4 = .ok (.ifCond .ne 6, 3) := by decide +kernel
theorem dX1_give_7 : decode cX1_give 7 = .ok (.bipush (-3), 2) := by decide +kernel
theorem dX1_give_9 : decode cX1_give 9 = .ok (.ireturn, 1) := by decide +kernel
theorem dX1_give_10 : decode cX1_give 10 = .ok (.aload_n 0, 1) := by decide +kernel
theorem dX1_give_11 : decode cX1_give 11 = .ok (.invokevirtual 38, 3) := by decide +kernel
theorem dX1_give_14 : decode cX1_give 14 = .ok (.istore_n 1, 1) := by decide +kernel
theorem dX1_give_15 : decode cX1_give 15 = .ok (.iload_n 1, 1) := by decide +kernel
theorem dX1_give_16 : decode cX1_give 16 = .ok (.ifCond .ge 5, 3) := by decide +kernel
theorem dX1_give_19 : decode cX1_give 19 = .ok (.iload_n 1, 1) := by decide +kernel
theorem dX1_give_20 : decode cX1_give 20 = .ok (.ireturn, 1) := by decide +kernel
theorem dX1_give_21 : decode cX1_give 21 = .ok (.aload_n 0, 1) := by decide +kernel
theorem dX1_give_22 : decode cX1_give 22 = .ok (.getfield 19, 3) := by decide +kernel
theorem dX1_give_25 : decode cX1_give 25 = .ok (.iload_n 1, 1) := by decide +kernel
theorem dX1_give_26 : decode cX1_give 26 = .ok (.aload_n 0, 1) := by decide +kernel
theorem dX1_give_27 : decode cX1_give 27 = .ok (.getfield 19, 3) := by decide +kernel
theorem dX1_give_30 : decode cX1_give 30 = .ok (.iload_n 1, 1) := by decide +kernel
theorem dX1_give_31 : decode cX1_give 31 = .ok (.iaload, 1) := by decide +kernel
theorem dX1_give_32 : decode cX1_give 32 = .ok (.iconst 1, 1) := by decide +kernel
theorem dX1_give_33 : decode cX1_give 33 = .ok (.iadd, 1) := by decide +kernel
theorem dX1_give_34 : decode cX1_give 34 = .ok (.iastore, 1) := by decide +kernel
theorem dX1_give_35 : decode cX1_give 35 = .ok (.aload_n 0, 1) := by decide +kernel
theorem dX1_give_36 : decode cX1_give 36 = .ok (.getfield 19, 3) := by decide +kernel
theorem dX1_give_39 : decode cX1_give 39 = .ok (.iload_n 1, 1) := by decide +kernel
theorem dX1_give_40 : decode cX1_give 40 = .ok (.iaload, 1) := by decide +kernel
theorem dX1_give_41 : decode cX1_give 41 = .ok (.iconst 1, 1) := by decide +kernel
theorem dX1_give_42 : decode cX1_give 42 = .ok (.if_icmp .ne 7, 3) := by decide +kernel
theorem dX1_give_45 : decode cX1_give 45 = .ok (.iload_n 1, 1) := by decide +kernel
theorem dX1_give_46 : decode cX1_give 46 = .ok (.goto 4, 3) := by decide +kernel
theorem dX1_give_49 : decode cX1_give 49 = .ok (.iconst (-1), 1) := by decide +kernel
theorem dX1_give_50 : decode cX1_give 50 = .ok (.ireturn, 1) := by decide +kernel
set_option maxRecDepth 20000 in
theorem ggX1_refer_X1_known : GoodIn wsX1_refer wsX1_known := goodIn_r _ [7, 8, 9, 1, 10, 11, 12, 2, 13, 14, 15, 6, 16, 17, 18, 19, 20, 21, 22, 23] (by decide +kernel) (by decide +kernel)
set_option maxRecDepth 20000 in
theorem gX1_refer_X1_known : GoodIn wsX1_refer (wsV RX1 38 RX1 yX1_known wsX1_known) := goodIn_app (goodIn_of _ (by decide +kernel)) ggX1_refer_X1_known
theorem dX1_refer_0 : decode cX1_refer 0 = .ok (.aload_n 0, 1) := by decide +kernel
theorem dX1_refer_1 : decode cX1_refer 1 = .ok (.getfield 25, 3) := by decide +kernel
theorem dX1_refer_4 : decode cX1_refer 4 = .ok (.ifCond .ne 6, 3) := by decide +kernel
theorem dX1_refer_7 : decode cX1_refer 7 = .ok (.bipush (-3), 2) := by decide +kernel
theorem dX1_refer_9 : decode cX1_refer 9 = .ok (.ireturn, 1) := by decide +kernel
theorem dX1_refer_10 : decode cX1_refer 10 = .ok (.aload_n 0, 1) := by decide +kernel
theorem dX1_refer_11 : decode cX1_refer 11 = .ok (.invokevirtual 38, 3) := by decide +kernel
theorem dX1_refer_14 : decode cX1_refer 14 = .ok (.istore_n 1, 1) := by decide +kernel
theorem dX1_refer_15 : decode cX1_refer 15 = .ok (.iload_n 1, 1) := by decide +kernel
theorem dX1_refer_16 : decode cX1_refer 16 = .ok (.ifCond .lt 17, 3) := by decide +kernel
theorem dX1_refer_19 : decode cX1_refer 19 = .ok (.aload_n 0, 1) := by decide +kernel
theorem dX1_refer_20 : decode cX1_refer 20 = .ok (.getfield 22, 3) := by decide +kernel
theorem dX1_refer_23 : decode cX1_refer 23 = .ok (.iload_n 1, 1) := by decide +kernel
theorem dX1_refer_24 : decode cX1_refer 24 = .ok (.aload_n 0, 1) := by decide +kernel
theorem dX1_refer_25 : decode cX1_refer 25 = .ok (.getfield 22, 3) := by decide +kernel
theorem dX1_refer_28 : decode cX1_refer 28 = .ok (.iload_n 1, 1) := by decide +kernel
theorem dX1_refer_29 : decode cX1_refer 29 = .ok (.iaload, 1) := by decide +kernel
theorem dX1_refer_30 : decode cX1_refer 30 = .ok (.iconst 1, 1) := by decide +kernel
theorem dX1_refer_31 : decode cX1_refer 31 = .ok (.iadd, 1) := by decide +kernel
theorem dX1_refer_32 : decode cX1_refer 32 = .ok (.iastore, 1) := by decide +kernel
theorem dX1_refer_33 : decode cX1_refer 33 = .ok (.iload_n 1, 1) := by decide +kernel
theorem dX1_refer_34 : decode cX1_refer 34 = .ok (.ireturn, 1) := by decide +kernel
set_option maxRecDepth 20000 in
theorem ggX1_find_X1_place : GoodIn wsX1_find wsX1_place := goodIn_r _ [6, 7, 8, 1, 9, 10, 11, 12, 13, 14, 15, 16, 17] (by decide +kernel) (by decide +kernel)
set_option maxRecDepth 20000 in
theorem gX1_find_X1_place : GoodIn wsX1_find (wsV RX1 34 RX1 yX1_place wsX1_place) := goodIn_app (goodIn_of _ (by decide +kernel)) ggX1_find_X1_place
theorem dX1_find_0 : decode cX1_find 0 = .ok (.aload_n 0, 1) := by decide +kernel
theorem dX1_find_1 : decode cX1_find 1 = .ok (.getfield 25, 3) := by decide +kernel
theorem dX1_find_4 : decode cX1_find 4 = .ok (.ifCond .ne 7, 3) := by decide +kernel
theorem dX1_find_7 : decode cX1_find 7 = .ok (.iconst (-1), 1) := by decide +kernel
theorem dX1_find_8 : decode cX1_find 8 = .ok (.goto 7, 3) := by decide +kernel
theorem dX1_find_11 : decode cX1_find 11 = .ok (.aload_n 0, 1) := by decide +kernel
theorem dX1_find_12 : decode cX1_find 12 = .ok (.invokevirtual 34, 3) := by decide +kernel
theorem dX1_find_15 : decode cX1_find 15 = .ok (.ireturn, 1) := by decide +kernel
theorem dX1_isMissing_0 : decode cX1_isMissing 0 = .ok (.aload_n 0, 1) := by decide +kernel
theorem dX1_isMissing_1 : decode cX1_isMissing 1 = .ok (.getfield 22, 3) := by decide +kernel
theorem dX1_isMissing_4 : decode cX1_isMissing 4 = .ok (.iload_n 1, 1) := by decide +kernel
theorem dX1_isMissing_5 : decode cX1_isMissing 5 = .ok (.iaload, 1) := by decide +kernel
theorem dX1_isMissing_6 : decode cX1_isMissing 6 = .ok (.ifCond .le 16, 3) := by decide +kernel
theorem dX1_isMissing_9 : decode cX1_isMissing 9 = .ok (.aload_n 0, 1) := by decide +kernel
theorem dX1_isMissing_10 : decode cX1_isMissing 10 = .ok (.getfield 19, 3) := by decide +kernel
theorem dX1_isMissing_13 : decode cX1_isMissing 13 = .ok (.iload_n 1, 1) := by decide +kernel
theorem dX1_isMissing_14 : decode cX1_isMissing 14 = .ok (.iaload, 1) := by decide +kernel
theorem dX1_isMissing_15 : decode cX1_isMissing 15 = .ok (.ifCond .ne 7, 3) := by decide +kernel
theorem dX1_isMissing_18 : decode cX1_isMissing 18 = .ok (.iconst 1, 1) := by decide +kernel
theorem dX1_isMissing_19 : decode cX1_isMissing 19 = .ok (.goto 4, 3) := by decide +kernel
theorem dX1_isMissing_22 : decode cX1_isMissing 22 = .ok (.iconst 0, 1) := by decide +kernel
theorem dX1_isMissing_23 : decode cX1_isMissing 23 = .ok (.ireturn, 1) := by decide +kernel
set_option maxRecDepth 20000 in
theorem ggX1_missingFrom_X1_isMissing : GoodIn wsX1_missingFrom wsX1_isMissing := goodIn_r _ [6, 7, 8, 9, 10, 11, 12, 13, 14, 15] (by decide +kernel) (by decide +kernel)
set_option maxRecDepth 20000 in
theorem gX1_missingFrom_X1_isMissing : GoodIn wsX1_missingFrom (wsV RX1 40 RX1 yX1_isMissing wsX1_isMissing) := goodIn_app (goodIn_of _ (by decide +kernel)) ggX1_missingFrom_X1_isMissing
theorem dX1_missingFrom_0 : decode cX1_missingFrom 0 = .ok (.iconst (-1), 1) := by decide +kernel
theorem dX1_missingFrom_1 : decode cX1_missingFrom 1 = .ok (.istore_n 2, 1) := by decide +kernel
theorem dX1_missingFrom_2 : decode cX1_missingFrom 2 = .ok (.aload_n 0, 1) := by decide +kernel
theorem dX1_missingFrom_3 : decode cX1_missingFrom 3 = .ok (.getfield 31, 3) := by decide +kernel
theorem dX1_missingFrom_6 : decode cX1_missingFrom 6 = .ok (.iconst 1, 1) := by decide +kernel
theorem dX1_missingFrom_7 : decode cX1_missingFrom 7 = .ok (.isub, 1) := by decide +kernel
theorem dX1_missingFrom_8 : decode cX1_missingFrom 8 = .ok (.istore_n 3, 1) := by decide +kernel
theorem dX1_missingFrom_9 : decode cX1_missingFrom 9 = .ok (.iload_n 3, 1) := by decide +kernel
theorem dX1_missingFrom_10 : decode cX1_missingFrom 10 = .ok (.iload_n 1, 1) := by decide +kernel
theorem dX1_missingFrom_11 : decode cX1_missingFrom 11 = .ok (.if_icmp .lt 23, 3) := by decide +kernel
theorem dX1_missingFrom_14 : decode cX1_missingFrom 14 = .ok (.aload_n 0, 1) := by decide +kernel
theorem dX1_missingFrom_15 : decode cX1_missingFrom 15 = .ok (.iload_n 3, 1) := by decide +kernel
theorem dX1_missingFrom_16 : decode cX1_missingFrom 16 = .ok (.invokevirtual 40, 3) := by decide +kernel
theorem dX1_missingFrom_19 : decode cX1_missingFrom 19 = .ok (.ifCond .eq 7, 3) := by decide +kernel
theorem dX1_missingFrom_22 : decode cX1_missingFrom 22 = .ok (.iload_n 3, 1) := by decide +kernel
theorem dX1_missingFrom_23 : decode cX1_missingFrom 23 = .ok (.goto 4, 3) := by decide +kernel
theorem dX1_missingFrom_26 : decode cX1_missingFrom 26 = .ok (.iload_n 2, 1) := by decide +kernel
theorem dX1_missingFrom_27 : decode cX1_missingFrom 27 = .ok (.istore_n 2, 1) := by decide +kernel
theorem dX1_missingFrom_28 : decode cX1_missingFrom 28 = .ok (.iinc 3 (-1), 3) := by decide +kernel
theorem dX1_missingFrom_31 : decode cX1_missingFrom 31 = .ok (.goto (-22), 3) := by decide +kernel
theorem dX1_missingFrom_34 : decode cX1_missingFrom 34 = .ok (.iload_n 2, 1) := by decide +kernel
theorem dX1_missingFrom_35 : decode cX1_missingFrom 35 = .ok (.ireturn, 1) := by decide +kernel
set_option maxRecDepth 20000 in
theorem ggX1_look_X1_missingFrom : GoodIn wsX1_look wsX1_missingFrom := goodIn_r _ [9, 1, 10, 11, 12, 8, 13, 3, 2, 14, 15, 16, 17, 18, 19, 20] (by decide +kernel) (by decide +kernel)
set_option maxRecDepth 20000 in
theorem gX1_look_X1_missingFrom : GoodIn wsX1_look (wsV RX1 44 RX1 yX1_missingFrom wsX1_missingFrom) := goodIn_app (goodIn_of _ (by decide +kernel)) ggX1_look_X1_missingFrom
theorem dX1_look_0 : decode cX1_look 0 = .ok (.iload_n 1, 1) := by decide +kernel
theorem dX1_look_1 : decode cX1_look 1 = .ok (.ifCond .lt 20, 3) := by decide +kernel
theorem dX1_look_4 : decode cX1_look 4 = .ok (.iload_n 1, 1) := by decide +kernel
theorem dX1_look_5 : decode cX1_look 5 = .ok (.aload_n 0, 1) := by decide +kernel
theorem dX1_look_6 : decode cX1_look 6 = .ok (.getfield 31, 3) := by decide +kernel
theorem dX1_look_9 : decode cX1_look 9 = .ok (.if_icmp .ge 12, 3) := by decide +kernel
theorem dX1_look_12 : decode cX1_look 12 = .ok (.iload_n 2, 1) := by decide +kernel
theorem dX1_look_13 : decode cX1_look 13 = .ok (.ifCond .lt 8, 3) := by decide +kernel
theorem dX1_look_16 : decode cX1_look 16 = .ok (.iload_n 2, 1) := by decide +kernel
theorem dX1_look_17 : decode cX1_look 17 = .ok (.iconst 3, 1) := by decide +kernel
theorem dX1_look_18 : decode cX1_look 18 = .ok (.if_icmp .le 5, 3) := by decide +kernel
theorem dX1_look_21 : decode cX1_look 21 = .ok (.iconst (-1), 1) := by decide +kernel
theorem dX1_look_22 : decode cX1_look 22 = .ok (.ireturn, 1) := by decide +kernel
theorem dX1_look_23 : decode cX1_look 23 = .ok (.iload_n 2, 1) := by decide +kernel
theorem dX1_look_24 : decode cX1_look 24 = .ok (.iconst 3, 1) := by decide +kernel
theorem dX1_look_25 : decode cX1_look 25 = .ok (.if_icmp .ne 11, 3) := by decide +kernel
theorem dX1_look_28 : decode cX1_look 28 = .ok (.aload_n 0, 1) := by decide +kernel
theorem dX1_look_29 : decode cX1_look 29 = .ok (.iload_n 1, 1) := by decide +kernel
theorem dX1_look_30 : decode cX1_look 30 = .ok (.iconst 1, 1) := by decide +kernel
theorem dX1_look_31 : decode cX1_look 31 = .ok (.iadd, 1) := by decide +kernel
theorem dX1_look_32 : decode cX1_look 32 = .ok (.invokevirtual 44, 3) := by decide +kernel
theorem dX1_look_35 : decode cX1_look 35 = .ok (.ireturn, 1) := by decide +kernel
theorem dX1_look_36 : decode cX1_look 36 = .ok (.iload_n 2, 1) := by decide +kernel
theorem dX1_look_37 : decode cX1_look 37 = .ok (.ifCond .ne 12, 3) := by decide +kernel
theorem dX1_look_40 : decode cX1_look 40 = .ok (.aload_n 0, 1) := by decide +kernel
theorem dX1_look_41 : decode cX1_look 41 = .ok (.getfield 19, 3) := by decide +kernel
theorem dX1_look_44 : decode cX1_look 44 = .ok (.iload_n 1, 1) := by decide +kernel
theorem dX1_look_45 : decode cX1_look 45 = .ok (.iaload, 1) := by decide +kernel
theorem dX1_look_46 : decode cX1_look 46 = .ok (.goto 23, 3) := by decide +kernel
theorem dX1_look_49 : decode cX1_look 49 = .ok (.iload_n 2, 1) := by decide +kernel
theorem dX1_look_50 : decode cX1_look 50 = .ok (.iconst 1, 1) := by decide +kernel
theorem dX1_look_51 : decode cX1_look 51 = .ok (.if_icmp .ne 12, 3) := by decide +kernel
theorem dX1_look_54 : decode cX1_look 54 = .ok (.aload_n 0, 1) := by decide +kernel
theorem dX1_look_55 : decode cX1_look 55 = .ok (.getfield 22, 3) := by decide +kernel
theorem dX1_look_58 : decode cX1_look 58 = .ok (.iload_n 1, 1) := by decide +kernel
theorem dX1_look_59 : decode cX1_look 59 = .ok (.iaload, 1) := by decide +kernel
theorem dX1_look_60 : decode cX1_look 60 = .ok (.goto 9, 3) := by decide +kernel
theorem dX1_look_63 : decode cX1_look 63 = .ok (.aload_n 0, 1) := by decide +kernel
theorem dX1_look_64 : decode cX1_look 64 = .ok (.getfield 16, 3) := by decide +kernel
theorem dX1_look_67 : decode cX1_look 67 = .ok (.iload_n 1, 1) := by decide +kernel
theorem dX1_look_68 : decode cX1_look 68 = .ok (.iaload, 1) := by decide +kernel
theorem dX1_look_69 : decode cX1_look 69 = .ok (.ireturn, 1) := by decide +kernel
theorem dX1_byteOf_0 : decode cX1_byteOf 0 = .ok (.iload_n 1, 1) := by decide +kernel
theorem dX1_byteOf_1 : decode cX1_byteOf 1 = .ok (.ifCond .lt 25, 3) := by decide +kernel
theorem dX1_byteOf_4 : decode cX1_byteOf 4 = .ok (.iload_n 1, 1) := by decide +kernel
theorem dX1_byteOf_5 : decode cX1_byteOf 5 = .ok (.aload_n 0, 1) := by decide +kernel
theorem dX1_byteOf_6 : decode cX1_byteOf 6 = .ok (.getfield 31, 3) := by decide +kernel
theorem dX1_byteOf_9 : decode cX1_byteOf 9 = .ok (.if_icmp .ge 17, 3) := by decide +kernel
theorem dX1_byteOf_12 : decode cX1_byteOf 12 = .ok (.iload_n 2, 1) := by decide +kernel
theorem dX1_byteOf_13 : decode cX1_byteOf 13 = .ok (.ifCond .lt 13, 3) := by decide +kernel
theorem dX1_byteOf_16 : decode cX1_byteOf 16 = .ok (.iload_n 2, 1) := by decide +kernel
theorem dX1_byteOf_17 : decode cX1_byteOf 17 = .ok (.aload_n 0, 1) := by decide +kernel
theorem dX1_byteOf_18 : decode cX1_byteOf 18 = .ok (.getfield 16, 3) := by decide +kernel
theorem dX1_byteOf_21 : decode cX1_byteOf 21 = .ok (.iload_n 1, 1) := by decide +kernel
theorem dX1_byteOf_22 : decode cX1_byteOf 22 = .ok (.iaload, 1) := by decide +kernel
theorem dX1_byteOf_23 : decode cX1_byteOf 23 = .ok (.if_icmp .lt 5, 3) := by decide +kernel
theorem dX1_byteOf_26 : decode cX1_byteOf 26 = .ok (.iconst (-1), 1) := by decide +kernel
theorem dX1_byteOf_27 : decode cX1_byteOf 27 = .ok (.ireturn, 1) := by decide +kernel
theorem dX1_byteOf_28 : decode cX1_byteOf 28 = .ok (.aload_n 0, 1) := by decide +kernel
theorem dX1_byteOf_29 : decode cX1_byteOf 29 = .ok (.getfield 13, 3) := by decide +kernel
theorem dX1_byteOf_32 : decode cX1_byteOf 32 = .ok (.bipush 60, 2) := by decide +kernel
theorem dX1_byteOf_34 : decode cX1_byteOf 34 = .ok (.iload_n 1, 1) := by decide +kernel
theorem dX1_byteOf_35 : decode cX1_byteOf 35 = .ok (.imul, 1) := by decide +kernel
theorem dX1_byteOf_36 : decode cX1_byteOf 36 = .ok (.iload_n 2, 1) := by decide +kernel
theorem dX1_byteOf_37 : decode cX1_byteOf 37 = .ok (.iadd, 1) := by decide +kernel
theorem dX1_byteOf_38 : decode cX1_byteOf 38 = .ok (.iaload, 1) := by decide +kernel
theorem dX1_byteOf_39 : decode cX1_byteOf 39 = .ok (.ireturn, 1) := by decide +kernel
set_option maxRecDepth 20000 in
theorem ggX1_count_X1_isMissing : GoodIn wsX1_count wsX1_isMissing := goodIn_r _ [8, 9, 2, 14, 15, 16, 17, 18, 19, 20] (by decide +kernel) (by decide +kernel)
set_option maxRecDepth 20000 in
theorem gX1_count_X1_isMissing : GoodIn wsX1_count (wsV RX1 40 RX1 yX1_isMissing wsX1_isMissing) := goodIn_app (goodIn_of _ (by decide +kernel)) ggX1_count_X1_isMissing
set_option maxRecDepth 20000 in
theorem ggX1_count_X1_missingFrom : GoodIn wsX1_count wsX1_missingFrom := goodIn_r _ [13, 1, 4, 5, 6, 7, 8, 9, 2, 14, 15, 16, 17, 18, 19, 20] (by decide +kernel) (by decide +kernel)
set_option maxRecDepth 20000 in
theorem gX1_count_X1_missingFrom : GoodIn wsX1_count (wsV RX1 44 RX1 yX1_missingFrom wsX1_missingFrom) := goodIn_app (goodIn_of _ (by decide +kernel)) ggX1_count_X1_missingFrom
theorem dX1_count_0 : decode cX1_count 0 = .ok (.iconst 0, 1) := by decide +kernel
theorem dX1_count_1 : decode cX1_count 1 = .ok (.istore_n 2, 1) := by decide +kernel
theorem dX1_count_2 : decode cX1_count 2 = .ok (.iconst 0, 1) := by decide +kernel
theorem dX1_count_3 : decode cX1_count 3 = .ok (.istore_n 3, 1) := by decide +kernel
theorem dX1_count_4 : decode cX1_count 4 = .ok (.iconst 0, 1) := by decide +kernel
theorem dX1_count_5 : decode cX1_count 5 = .ok (.istore 4, 2) := by decide +kernel
theorem dX1_count_7 : decode cX1_count 7 = .ok (.iconst 0, 1) := by decide +kernel
theorem dX1_count_8 : decode cX1_count 8 = .ok (.istore 5, 2) := by decide +kernel
theorem dX1_count_10 : decode cX1_count 10 = .ok (.iload 5, 2) := by decide +kernel
theorem dX1_count_12 : decode cX1_count 12 = .ok (.aload_n 0, 1) := by decide +kernel
theorem dX1_count_13 : decode cX1_count 13 = .ok (.getfield 31, 3) := by decide +kernel
theorem dX1_count_16 : decode cX1_count 16 = .ok (.if_icmp .ge 74, 3) := by decide +kernel
theorem dX1_count_19 : decode cX1_count 19 = .ok (.aload_n 0, 1) := by decide +kernel
theorem dX1_count_20 : decode cX1_count 20 = .ok (.getfield 19, 3) := by decide +kernel
theorem dX1_count_23 : decode cX1_count 23 = .ok (.iload 5, 2) := by decide +kernel
theorem dX1_count_25 : decode cX1_count 25 = .ok (.iaload, 1) := by decide +kernel
theorem dX1_count_26 : decode cX1_count 26 = .ok (.ifCond .le 9, 3) := by decide +kernel
theorem dX1_count_29 : decode cX1_count 29 = .ok (.iload_n 2, 1) := by decide +kernel
theorem dX1_count_30 : decode cX1_count 30 = .ok (.iconst 1, 1) := by decide +kernel
theorem dX1_count_31 : decode cX1_count 31 = .ok (.iadd, 1) := by decide +kernel
theorem dX1_count_32 : decode cX1_count 32 = .ok (.goto 4, 3) := by decide +kernel
theorem dX1_count_35 : decode cX1_count 35 = .ok (.iload_n 2, 1) := by decide +kernel
theorem dX1_count_36 : decode cX1_count 36 = .ok (.istore_n 2, 1) := by decide +kernel
theorem dX1_count_37 : decode cX1_count 37 = .ok (.aload_n 0, 1) := by decide +kernel
theorem dX1_count_38 : decode cX1_count 38 = .ok (.iload 5, 2) := by decide +kernel
theorem dX1_count_40 : decode cX1_count 40 = .ok (.invokevirtual 40, 3) := by decide +kernel
theorem dX1_count_43 : decode cX1_count 43 = .ok (.ifCond .eq 9, 3) := by decide +kernel
theorem dX1_count_46 : decode cX1_count 46 = .ok (.iload_n 3, 1) := by decide +kernel
theorem dX1_count_47 : decode cX1_count 47 = .ok (.iconst 1, 1) := by decide +kernel
theorem dX1_count_48 : decode cX1_count 48 = .ok (.iadd, 1) := by decide +kernel
theorem dX1_count_49 : decode cX1_count 49 = .ok (.goto 4, 3) := by decide +kernel
theorem dX1_count_52 : decode cX1_count 52 = .ok (.iload_n 3, 1) := by decide +kernel
theorem dX1_count_53 : decode cX1_count 53 = .ok (.istore_n 3, 1) := by decide +kernel
theorem dX1_count_54 : decode cX1_count 54 = .ok (.aload_n 0, 1) := by decide +kernel
theorem dX1_count_55 : decode cX1_count 55 = .ok (.getfield 19, 3) := by decide +kernel
theorem dX1_count_58 : decode cX1_count 58 = .ok (.iload 5, 2) := by decide +kernel
theorem dX1_count_60 : decode cX1_count 60 = .ok (.iaload, 1) := by decide +kernel
theorem dX1_count_61 : decode cX1_count 61 = .ok (.iconst 1, 1) := by decide +kernel
theorem dX1_count_62 : decode cX1_count 62 = .ok (.if_icmp .le 18, 3) := by decide +kernel
theorem dX1_count_65 : decode cX1_count 65 = .ok (.iload 4, 2) := by decide +kernel
theorem dX1_count_67 : decode cX1_count 67 = .ok (.aload_n 0, 1) := by decide +kernel
theorem dX1_count_68 : decode cX1_count 68 = .ok (.getfield 19, 3) := by decide +kernel
theorem dX1_count_71 : decode cX1_count 71 = .ok (.iload 5, 2) := by decide +kernel
theorem dX1_count_73 : decode cX1_count 73 = .ok (.iaload, 1) := by decide +kernel
theorem dX1_count_74 : decode cX1_count 74 = .ok (.iadd, 1) := by decide +kernel
theorem dX1_count_75 : decode cX1_count 75 = .ok (.iconst 1, 1) := by decide +kernel
theorem dX1_count_76 : decode cX1_count 76 = .ok (.isub, 1) := by decide +kernel
theorem dX1_count_77 : decode cX1_count 77 = .ok (.goto 5, 3) := by decide +kernel
theorem dX1_count_80 : decode cX1_count 80 = .ok (.iload 4, 2) := by decide +kernel
theorem dX1_count_82 : decode cX1_count 82 = .ok (.istore 4, 2) := by decide +kernel
theorem dX1_count_84 : decode cX1_count 84 = .ok (.iinc 5 1, 3) := by decide +kernel
theorem dX1_count_87 : decode cX1_count 87 = .ok (.goto (-77), 3) := by decide +kernel
theorem dX1_count_90 : decode cX1_count 90 = .ok (.iload_n 1, 1) := by decide +kernel
theorem dX1_count_91 : decode cX1_count 91 = .ok (.ifCond .ne 10, 3) := by decide +kernel
theorem dX1_count_94 : decode cX1_count 94 = .ok (.aload_n 0, 1) := by decide +kernel
theorem dX1_count_95 : decode cX1_count 95 = .ok (.getfield 31, 3) := by decide +kernel
theorem dX1_count_98 : decode cX1_count 98 = .ok (.goto 57, 3) := by decide +kernel
theorem dX1_count_101 : decode cX1_count 101 = .ok (.iload_n 1, 1) := by decide +kernel
theorem dX1_count_102 : decode cX1_count 102 = .ok (.iconst 1, 1) := by decide +kernel
theorem dX1_count_103 : decode cX1_count 103 = .ok (.if_icmp .ne 7, 3) := by decide +kernel
theorem dX1_count_106 : decode cX1_count 106 = .ok (.iload_n 2, 1) := by decide +kernel
theorem dX1_count_107 : decode cX1_count 107 = .ok (.goto 48, 3) := by decide +kernel
theorem dX1_count_110 : decode cX1_count 110 = .ok (.iload_n 1, 1) := by decide +kernel
theorem dX1_count_111 : decode cX1_count 111 = .ok (.iconst 2, 1) := by decide +kernel
theorem dX1_count_112 : decode cX1_count 112 = .ok (.if_icmp .ne 7, 3) := by decide +kernel
theorem dX1_count_115 : decode cX1_count 115 = .ok (.iload_n 3, 1) := by decide +kernel
theorem dX1_count_116 : decode cX1_count 116 = .ok (.goto 39, 3) := by decide +kernel
theorem dX1_count_119 : decode cX1_count 119 = .ok (.iload_n 1, 1) := by decide +kernel
theorem dX1_count_120 : decode cX1_count 120 = .ok (.iconst 3, 1) := by decide +kernel
theorem dX1_count_121 : decode cX1_count 121 = .ok (.if_icmp .ne 8, 3) := by decide +kernel
theorem dX1_count_124 : decode cX1_count 124 = .ok (.iload 4, 2) := by decide +kernel
theorem dX1_count_126 : decode cX1_count 126 = .ok (.goto 29, 3) := by decide +kernel
theorem dX1_count_129 : decode cX1_count 129 = .ok (.iload_n 1, 1) := by decide +kernel
theorem dX1_count_130 : decode cX1_count 130 = .ok (.iconst 4, 1) := by decide +kernel
theorem dX1_count_131 : decode cX1_count 131 = .ok (.if_icmp .ne 10, 3) := by decide +kernel
theorem dX1_count_134 : decode cX1_count 134 = .ok (.aload_n 0, 1) := by decide +kernel
theorem dX1_count_135 : decode cX1_count 135 = .ok (.getfield 25, 3) := by decide +kernel
theorem dX1_count_138 : decode cX1_count 138 = .ok (.goto 17, 3) := by decide +kernel
theorem dX1_count_141 : decode cX1_count 141 = .ok (.iload_n 1, 1) := by decide +kernel
theorem dX1_count_142 : decode cX1_count 142 = .ok (.iconst 5, 1) := by decide +kernel
theorem dX1_count_143 : decode cX1_count 143 = .ok (.if_icmp .ne 11, 3) := by decide +kernel
theorem dX1_count_146 : decode cX1_count 146 = .ok (.aload_n 0, 1) := by decide +kernel
theorem dX1_count_147 : decode cX1_count 147 = .ok (.iconst 0, 1) := by decide +kernel
theorem dX1_count_148 : decode cX1_count 148 = .ok (.invokevirtual 44, 3) := by decide +kernel
theorem dX1_count_151 : decode cX1_count 151 = .ok (.goto 4, 3) := by decide +kernel
theorem dX1_count_154 : decode cX1_count 154 = .ok (.iconst (-1), 1) := by decide +kernel
theorem dX1_count_155 : decode cX1_count 155 = .ok (.ireturn, 1) := by decide +kernel
theorem dX1_clear_0 : decode cX1_clear 0 = .ok (.aload_n 0, 1) := by decide +kernel
theorem dX1_clear_1 : decode cX1_clear 1 = .ok (.getfield 31, 3) := by decide +kernel
theorem dX1_clear_4 : decode cX1_clear 4 = .ok (.istore_n 1, 1) := by decide +kernel
theorem dX1_clear_5 : decode cX1_clear 5 = .ok (.aload_n 0, 1) := by decide +kernel
theorem dX1_clear_6 : decode cX1_clear 6 = .ok (.iconst 0, 1) := by decide +kernel
theorem dX1_clear_7 : decode cX1_clear 7 = .ok (.putfield 31, 3) := by decide +kernel
theorem dX1_clear_10 : decode cX1_clear 10 = .ok (.aload_n 0, 1) := by decide +kernel
theorem dX1_clear_11 : decode cX1_clear 11 = .ok (.iconst 0, 1) := by decide +kernel
theorem dX1_clear_12 : decode cX1_clear 12 = .ok (.putfield 25, 3) := by decide +kernel
theorem dX1_clear_15 : decode cX1_clear 15 = .ok (.iload_n 1, 1) := by decide +kernel
theorem dX1_clear_16 : decode cX1_clear 16 = .ok (.ireturn, 1) := by decide +kernel
set_option maxRecDepth 20000 in
theorem ggL_law_X0_init : GoodIn wsL_law wsX0_init := goodIn_r _ [9, 10, 11, 12, 13, 14, 15, 16, 17, 18, 19, 20, 21, 155, 156, 157, 158, 159, 160, 161] (by decide +kernel) (by decide +kernel)
set_option maxRecDepth 20000 in
theorem gL_law_X0_init : GoodIn wsL_law (wsX0_init) := ggL_law_X0_init
set_option maxRecDepth 20000 in
theorem ggL_law_X1_init : GoodIn wsL_law wsX1_init := goodIn_r _ [24, 25, 11, 12, 17, 26, 27, 28, 29, 30, 162, 163, 164, 165, 166, 167, 168] (by decide +kernel) (by decide +kernel)
set_option maxRecDepth 20000 in
theorem gL_law_X1_init : GoodIn wsL_law (wsX1_init) := ggL_law_X1_init
set_option maxRecDepth 20000 in
theorem ggL_law_X0_put : GoodIn wsL_law wsX0_put := goodIn_r _ [34, 15, 14, 155, 156, 157, 158, 159, 160, 161] (by decide +kernel) (by decide +kernel)
set_option maxRecDepth 20000 in
theorem gL_law_X0_put : GoodIn wsL_law (wsV RL 15 RX0 yX0_put wsX0_put) := goodIn_app (goodIn_of _ (by decide +kernel)) ggL_law_X0_put
set_option maxRecDepth 20000 in
theorem ggL_law_X1_put : GoodIn wsL_law wsX1_put := goodIn_r _ [38, 39, 26, 40, 162, 163, 164, 165, 166, 167, 168] (by decide +kernel) (by decide +kernel)
set_option maxRecDepth 20000 in
theorem gL_law_X1_put : GoodIn wsL_law (wsV RL 19 RX1 yX1_put wsX1_put) := goodIn_app (goodIn_of _ (by decide +kernel)) ggL_law_X1_put
set_option maxRecDepth 20000 in
theorem ggL_law_X0_give : GoodIn wsL_law wsX0_give := goodIn_r _ [44, 15, 19, 45, 46, 47, 2, 48, 49, 50, 51, 52, 21, 53, 54, 55, 56, 18, 16, 14, 57, 58, 59, 60, 20, 61, 62, 63, 64, 155, 156, 157, 158, 159, 160, 161] (by decide +kernel) (by decide +kernel)
set_option maxRecDepth 20000 in
theorem gL_law_X0_give : GoodIn wsL_law (wsV RL 20 RX0 yX0_give wsX0_give) := goodIn_app (goodIn_of _ (by decide +kernel)) ggL_law_X0_give
set_option maxRecDepth 20000 in
theorem ggL_law_X1_give : GoodIn wsL_law wsX1_give := goodIn_r _ [68, 39, 29, 69, 70, 71, 5, 72, 73, 28, 27, 26, 30, 74, 75, 76, 77, 162, 163, 164, 165, 166, 167, 168] (by decide +kernel) (by decide +kernel)
set_option maxRecDepth 20000 in
theorem gL_law_X1_give : GoodIn wsL_law (wsV RL 24 RX1 yX1_give wsX1_give) := goodIn_app (goodIn_of _ (by decide +kernel)) ggL_law_X1_give
set_option maxRecDepth 20000 in
theorem ggL_law_X0_refer : GoodIn wsL_law wsX0_refer := goodIn_r _ [81, 15, 20, 45, 46, 47, 2, 48, 49, 50, 51, 52, 21, 53, 54, 55, 56, 18, 16, 14, 57, 58, 59, 60, 19, 155, 156, 157, 158, 159, 160, 161] (by decide +kernel) (by decide +kernel)
set_option maxRecDepth 20000 in
theorem gL_law_X0_refer : GoodIn wsL_law (wsV RL 25 RX0 yX0_refer wsX0_refer) := goodIn_app (goodIn_of _ (by decide +kernel)) ggL_law_X0_refer
set_option maxRecDepth 20000 in
theorem ggL_law_X1_refer : GoodIn wsL_law wsX1_refer := goodIn_r _ [85, 39, 30, 69, 70, 71, 5, 72, 73, 28, 27, 26, 29, 74, 75, 76, 77, 162, 163, 164, 165, 166, 167, 168] (by decide +kernel) (by decide +kernel)
set_option maxRecDepth 20000 in
theorem gL_law_X1_refer : GoodIn wsL_law (wsV RL 28 RX1 yX1_refer wsX1_refer) := goodIn_app (goodIn_of _ (by decide +kernel)) ggL_law_X1_refer
set_option maxRecDepth 20000 in
theorem ggL_law_X0_find : GoodIn wsL_law wsX0_find := goodIn_r _ [52, 21, 53, 54, 55, 2, 56, 18, 15, 16, 14, 155, 156, 157, 158, 159, 160, 161] (by decide +kernel) (by decide +kernel)
set_option maxRecDepth 20000 in
theorem gL_law_X0_find : GoodIn wsL_law (wsV RL 29 RX0 yX0_find wsX0_find) := goodIn_app (goodIn_of _ (by decide +kernel)) ggL_law_X0_find
set_option maxRecDepth 20000 in
theorem ggL_law_X1_find : GoodIn wsL_law wsX1_find := goodIn_r _ [90, 39, 74, 75, 76, 5, 77, 73, 28, 27, 26, 162, 163, 164, 165, 166, 167, 168] (by decide +kernel) (by decide +kernel)
set_option maxRecDepth 20000 in
theorem gL_law_X1_find : GoodIn wsL_law (wsV RL 32 RX1 yX1_find wsX1_find) := goodIn_app (goodIn_of _ (by decide +kernel)) ggL_law_X1_find
set_option maxRecDepth 20000 in
theorem ggL_law_X0_look : GoodIn wsL_law wsX0_look := goodIn_r _ [94, 19, 20, 18, 95, 96, 97, 2, 98, 21, 99, 100, 101, 102, 103, 104, 105, 106, 61, 62, 63, 64, 155, 156, 157, 158, 159, 160, 161] (by decide +kernel) (by decide +kernel)
set_option maxRecDepth 20000 in
theorem gL_law_X0_look : GoodIn wsL_law (wsV RL 33 RX0 yX0_look wsX0_look) := goodIn_app (goodIn_of _ (by decide +kernel)) ggL_law_X0_look
set_option maxRecDepth 20000 in
theorem ggL_law_X1_look : GoodIn wsL_law wsX1_look := goodIn_r _ [110, 73, 29, 30, 28, 111, 112, 113, 5, 114, 115, 116, 117, 118, 162, 163, 164, 165, 166, 167, 168] (by decide +kernel) (by decide +kernel)
set_option maxRecDepth 20000 in
theorem gL_law_X1_look : GoodIn wsL_law (wsV RL 37 RX1 yX1_look wsX1_look) := goodIn_app (goodIn_of _ (by decide +kernel)) ggL_law_X1_look
set_option maxRecDepth 20000 in
theorem ggL_law_X0_byteOf : GoodIn wsL_law wsX0_byteOf := goodIn_r _ [122, 18, 16, 95, 96, 97, 2, 98, 21, 155, 156, 157, 158, 159, 160, 161] (by decide +kernel) (by decide +kernel)
set_option maxRecDepth 20000 in
theorem gL_law_X0_byteOf : GoodIn wsL_law (wsV RL 38 RX0 yX0_byteOf wsX0_byteOf) := goodIn_app (goodIn_of _ (by decide +kernel)) ggL_law_X0_byteOf
set_option maxRecDepth 20000 in
theorem ggL_law_X1_byteOf : GoodIn wsL_law wsX1_byteOf := goodIn_r _ [126, 73, 28, 27, 162, 163, 164, 165, 166, 167, 168] (by decide +kernel) (by decide +kernel)
set_option maxRecDepth 20000 in
theorem gL_law_X1_byteOf : GoodIn wsL_law (wsV RL 41 RX1 yX1_byteOf wsX1_byteOf) := goodIn_app (goodIn_of _ (by decide +kernel)) ggL_law_X1_byteOf
set_option maxRecDepth 20000 in
theorem ggL_law_X0_count : GoodIn wsL_law wsX0_count := goodIn_r _ [130, 21, 15, 131, 132, 133, 2, 134, 61, 62, 63, 64, 19, 135, 136, 137, 138, 103, 104, 105, 106, 20, 139, 140, 141, 142, 99, 100, 101, 102, 155, 156, 157, 158, 159, 160, 161] (by decide +kernel) (by decide +kernel)
set_option maxRecDepth 20000 in
theorem gL_law_X0_count : GoodIn wsL_law (wsV RL 42 RX0 yX0_count wsX0_count) := goodIn_app (goodIn_of _ (by decide +kernel)) ggL_law_X0_count
set_option maxRecDepth 20000 in
theorem ggL_law_X1_count : GoodIn wsL_law wsX1_count := goodIn_r _ [146, 73, 29, 39, 115, 116, 117, 5, 118, 30, 111, 112, 113, 114, 162, 163, 164, 165, 166, 167, 168] (by decide +kernel) (by decide +kernel)
set_option maxRecDepth 20000 in
theorem gL_law_X1_count : GoodIn wsL_law (wsV RL 46 RX1 yX1_count wsX1_count) := goodIn_app (goodIn_of _ (by decide +kernel)) ggL_law_X1_count
set_option maxRecDepth 20000 in
theorem ggL_law_X0_clear : GoodIn wsL_law wsX0_clear := goodIn_r _ [150, 21, 15, 155, 156, 157, 158, 159, 160, 161] (by decide +kernel) (by decide +kernel)
set_option maxRecDepth 20000 in
theorem gL_law_X0_clear : GoodIn wsL_law (wsV RL 47 RX0 yX0_clear wsX0_clear) := goodIn_app (goodIn_of _ (by decide +kernel)) ggL_law_X0_clear
set_option maxRecDepth 20000 in
theorem ggL_law_X1_clear : GoodIn wsL_law wsX1_clear := goodIn_r _ [154, 73, 39, 162, 163, 164, 165, 166, 167, 168] (by decide +kernel) (by decide +kernel)
set_option maxRecDepth 20000 in
theorem gL_law_X1_clear : GoodIn wsL_law (wsV RL 50 RX1 yX1_clear wsX1_clear) := goodIn_app (goodIn_of _ (by decide +kernel)) ggL_law_X1_clear
theorem dL_law_0 : decode cL_law 0 = .ok (.new 7, 3) := by decide +kernel
theorem dL_law_3 : decode cL_law 3 = .ok (.dup, 1) := by decide +kernel
theorem dL_law_4 : decode cL_law 4 = .ok (.invokespecial 9, 3) := by decide +kernel
theorem dL_law_7 : decode cL_law 7 = .ok (.astore_n 1, 1) := by decide +kernel
theorem dL_law_8 : decode cL_law 8 = .ok (.new 10, 3) := by decide +kernel
theorem dL_law_11 : decode cL_law 11 = .ok (.dup, 1) := by decide +kernel
theorem dL_law_12 : decode cL_law 12 = .ok (.invokespecial 12, 3) := by decide +kernel
theorem dL_law_15 : decode cL_law 15 = .ok (.astore_n 2, 1) := by decide +kernel
theorem dL_law_16 : decode cL_law 16 = .ok (.iconst 0, 1) := by decide +kernel
theorem dL_law_17 : decode cL_law 17 = .ok (.istore_n 3, 1) := by decide +kernel
theorem dL_law_18 : decode cL_law 18 = .ok (.iload_n 3, 1) := by decide +kernel
theorem dL_law_19 : decode cL_law 19 = .ok (.aload_n 0, 1) := by decide +kernel
theorem dL_law_20 : decode cL_law 20 = .ok (.arraylength, 1) := by decide +kernel
theorem dL_law_21 : decode cL_law 21 = .ok (.iconst 4, 1) := by decide +kernel
theorem dL_law_22 : decode cL_law 22 = .ok (.isub, 1) := by decide +kernel
theorem dL_law_23 : decode cL_law 23 = .ok (.if_icmp .gt 267, 3) := by decide +kernel
theorem dL_law_26 : decode cL_law 26 = .ok (.aload_n 0, 1) := by decide +kernel
theorem dL_law_27 : decode cL_law 27 = .ok (.iload_n 3, 1) := by decide +kernel
theorem dL_law_28 : decode cL_law 28 = .ok (.iaload, 1) := by decide +kernel
theorem dL_law_29 : decode cL_law 29 = .ok (.bipush 7, 2) := by decide +kernel
theorem dL_law_31 : decode cL_law 31 = .ok (.iand, 1) := by decide +kernel
theorem dL_law_32 : decode cL_law 32 = .ok (.tableswitch 252 0 7 #[48, 111, 124, 137, 150, 183, 216, 239], 48) := by decide +kernel
theorem dL_law_80 : decode cL_law 80 = .ok (.aload_n 1, 1) := by decide +kernel
theorem dL_law_81 : decode cL_law 81 = .ok (.aload_n 0, 1) := by decide +kernel
theorem dL_law_82 : decode cL_law 82 = .ok (.iload_n 3, 1) := by decide +kernel
theorem dL_law_83 : decode cL_law 83 = .ok (.iconst 1, 1) := by decide +kernel
theorem dL_law_84 : decode cL_law 84 = .ok (.iadd, 1) := by decide +kernel
theorem dL_law_85 : decode cL_law 85 = .ok (.iaload, 1) := by decide +kernel
theorem dL_law_86 : decode cL_law 86 = .ok (.i2l, 1) := by decide +kernel
theorem dL_law_87 : decode cL_law 87 = .ok (.bipush 32, 2) := by decide +kernel
theorem dL_law_89 : decode cL_law 89 = .ok (.lshl, 1) := by decide +kernel
theorem dL_law_90 : decode cL_law 90 = .ok (.aload_n 0, 1) := by decide +kernel
theorem dL_law_91 : decode cL_law 91 = .ok (.iload_n 3, 1) := by decide +kernel
theorem dL_law_92 : decode cL_law 92 = .ok (.iconst 2, 1) := by decide +kernel
theorem dL_law_93 : decode cL_law 93 = .ok (.iadd, 1) := by decide +kernel
theorem dL_law_94 : decode cL_law 94 = .ok (.iaload, 1) := by decide +kernel
theorem dL_law_95 : decode cL_law 95 = .ok (.i2l, 1) := by decide +kernel
theorem dL_law_96 : decode cL_law 96 = .ok (.ldc2_w 13, 3) := by decide +kernel
theorem dL_law_99 : decode cL_law 99 = .ok (.land, 1) := by decide +kernel
theorem dL_law_100 : decode cL_law 100 = .ok (.lor, 1) := by decide +kernel
theorem dL_law_101 : decode cL_law 101 = .ok (.aload_n 0, 1) := by decide +kernel
theorem dL_law_102 : decode cL_law 102 = .ok (.iload_n 3, 1) := by decide +kernel
theorem dL_law_103 : decode cL_law 103 = .ok (.iconst 3, 1) := by decide +kernel
theorem dL_law_104 : decode cL_law 104 = .ok (.iadd, 1) := by decide +kernel
theorem dL_law_105 : decode cL_law 105 = .ok (.iaload, 1) := by decide +kernel
theorem dL_law_106 : decode cL_law 106 = .ok (.invokevirtual 15, 3) := by decide +kernel
theorem dL_law_109 : decode cL_law 109 = .ok (.aload_n 2, 1) := by decide +kernel
theorem dL_law_110 : decode cL_law 110 = .ok (.aload_n 0, 1) := by decide +kernel
theorem dL_law_111 : decode cL_law 111 = .ok (.iload_n 3, 1) := by decide +kernel
theorem dL_law_112 : decode cL_law 112 = .ok (.iconst 1, 1) := by decide +kernel
theorem dL_law_113 : decode cL_law 113 = .ok (.iadd, 1) := by decide +kernel
theorem dL_law_114 : decode cL_law 114 = .ok (.iaload, 1) := by decide +kernel
theorem dL_law_115 : decode cL_law 115 = .ok (.i2l, 1) := by decide +kernel
theorem dL_law_116 : decode cL_law 116 = .ok (.bipush 32, 2) := by decide +kernel
theorem dL_law_118 : decode cL_law 118 = .ok (.lshl, 1) := by decide +kernel
theorem dL_law_119 : decode cL_law 119 = .ok (.aload_n 0, 1) := by decide +kernel
theorem dL_law_120 : decode cL_law 120 = .ok (.iload_n 3, 1) := by decide +kernel
theorem dL_law_121 : decode cL_law 121 = .ok (.iconst 2, 1) := by decide +kernel
theorem dL_law_122 : decode cL_law 122 = .ok (.iadd, 1) := by decide +kernel
theorem dL_law_123 : decode cL_law 123 = .ok (.iaload, 1) := by decide +kernel
theorem dL_law_124 : decode cL_law 124 = .ok (.i2l, 1) := by decide +kernel
theorem dL_law_125 : decode cL_law 125 = .ok (.ldc2_w 13, 3) := by decide +kernel
theorem dL_law_128 : decode cL_law 128 = .ok (.land, 1) := by decide +kernel
theorem dL_law_129 : decode cL_law 129 = .ok (.lor, 1) := by decide +kernel
theorem dL_law_130 : decode cL_law 130 = .ok (.aload_n 0, 1) := by decide +kernel
theorem dL_law_131 : decode cL_law 131 = .ok (.iload_n 3, 1) := by decide +kernel
theorem dL_law_132 : decode cL_law 132 = .ok (.iconst 3, 1) := by decide +kernel
theorem dL_law_133 : decode cL_law 133 = .ok (.iadd, 1) := by decide +kernel
theorem dL_law_134 : decode cL_law 134 = .ok (.iaload, 1) := by decide +kernel
theorem dL_law_135 : decode cL_law 135 = .ok (.invokevirtual 19, 3) := by decide +kernel
theorem dL_law_138 : decode cL_law 138 = .ok (.if_icmp .eq 146, 3) := by decide +kernel
theorem dL_law_141 : decode cL_law 141 = .ok (.iconst 0, 1) := by decide +kernel
theorem dL_law_142 : decode cL_law 142 = .ok (.ireturn, 1) := by decide +kernel
theorem dL_law_143 : decode cL_law 143 = .ok (.aload_n 1, 1) := by decide +kernel
theorem dL_law_144 : decode cL_law 144 = .ok (.invokevirtual 20, 3) := by decide +kernel
theorem dL_law_147 : decode cL_law 147 = .ok (.aload_n 2, 1) := by decide +kernel
theorem dL_law_148 : decode cL_law 148 = .ok (.invokevirtual 24, 3) := by decide +kernel
theorem dL_law_151 : decode cL_law 151 = .ok (.if_icmp .eq 133, 3) := by decide +kernel
theorem dL_law_154 : decode cL_law 154 = .ok (.iconst 0, 1) := by decide +kernel
theorem dL_law_155 : decode cL_law 155 = .ok (.ireturn, 1) := by decide +kernel
theorem dL_law_156 : decode cL_law 156 = .ok (.aload_n 1, 1) := by decide +kernel
theorem dL_law_157 : decode cL_law 157 = .ok (.invokevirtual 25, 3) := by decide +kernel
theorem dL_law_160 : decode cL_law 160 = .ok (.aload_n 2, 1) := by decide +kernel
theorem dL_law_161 : decode cL_law 161 = .ok (.invokevirtual 28, 3) := by decide +kernel
theorem dL_law_164 : decode cL_law 164 = .ok (.if_icmp .eq 120, 3) := by decide +kernel
theorem dL_law_167 : decode cL_law 167 = .ok (.iconst 0, 1) := by decide +kernel
theorem dL_law_168 : decode cL_law 168 = .ok (.ireturn, 1) := by decide +kernel
theorem dL_law_169 : decode cL_law 169 = .ok (.aload_n 1, 1) := by decide +kernel
theorem dL_law_170 : decode cL_law 170 = .ok (.invokevirtual 29, 3) := by decide +kernel
theorem dL_law_173 : decode cL_law 173 = .ok (.aload_n 2, 1) := by decide +kernel
theorem dL_law_174 : decode cL_law 174 = .ok (.invokevirtual 32, 3) := by decide +kernel
theorem dL_law_177 : decode cL_law 177 = .ok (.if_icmp .eq 107, 3) := by decide +kernel
theorem dL_law_180 : decode cL_law 180 = .ok (.iconst 0, 1) := by decide +kernel
theorem dL_law_181 : decode cL_law 181 = .ok (.ireturn, 1) := by decide +kernel
theorem dL_law_182 : decode cL_law 182 = .ok (.aload_n 1, 1) := by decide +kernel
theorem dL_law_183 : decode cL_law 183 = .ok (.aload_n 0, 1) := by decide +kernel
theorem dL_law_184 : decode cL_law 184 = .ok (.iload_n 3, 1) := by decide +kernel
theorem dL_law_185 : decode cL_law 185 = .ok (.iconst 1, 1) := by decide +kernel
theorem dL_law_186 : decode cL_law 186 = .ok (.iadd, 1) := by decide +kernel
theorem dL_law_187 : decode cL_law 187 = .ok (.iaload, 1) := by decide +kernel
theorem dL_law_188 : decode cL_law 188 = .ok (.aload_n 0, 1) := by decide +kernel
theorem dL_law_189 : decode cL_law 189 = .ok (.iload_n 3, 1) := by decide +kernel
theorem dL_law_190 : decode cL_law 190 = .ok (.iconst 2, 1) := by decide +kernel
theorem dL_law_191 : decode cL_law 191 = .ok (.iadd, 1) := by decide +kernel
theorem dL_law_192 : decode cL_law 192 = .ok (.iaload, 1) := by decide +kernel
theorem dL_law_193 : decode cL_law 193 = .ok (.invokevirtual 33, 3) := by decide +kernel
theorem dL_law_196 : decode cL_law 196 = .ok (.aload_n 2, 1) := by decide +kernel
theorem dL_law_197 : decode cL_law 197 = .ok (.aload_n 0, 1) := by decide +kernel
theorem dL_law_198 : decode cL_law 198 = .ok (.iload_n 3, 1) := by decide +kernel
theorem dL_law_199 : decode cL_law 199 = .ok (.iconst 1, 1) := by decide +kernel
theorem dL_law_200 : decode cL_law 200 = .ok (.iadd, 1) := by decide +kernel
theorem dL_law_201 : decode cL_law 201 = .ok (.iaload, 1) := by decide +kernel
theorem dL_law_202 : decode cL_law 202 = .ok (.aload_n 0, 1) := by decide +kernel
theorem dL_law_203 : decode cL_law 203 = .ok (.iload_n 3, 1) := by decide +kernel
theorem dL_law_204 : decode cL_law 204 = .ok (.iconst 2, 1) := by decide +kernel
theorem dL_law_205 : decode cL_law 205 = .ok (.iadd, 1) := by decide +kernel
theorem dL_law_206 : decode cL_law 206 = .ok (.iaload, 1) := by decide +kernel
theorem dL_law_207 : decode cL_law 207 = .ok (.invokevirtual 37, 3) := by decide +kernel
theorem dL_law_210 : decode cL_law 210 = .ok (.if_icmp .eq 74, 3) := by decide +kernel
theorem dL_law_213 : decode cL_law 213 = .ok (.iconst 0, 1) := by decide +kernel
theorem dL_law_214 : decode cL_law 214 = .ok (.ireturn, 1) := by decide +kernel
theorem dL_law_215 : decode cL_law 215 = .ok (.aload_n 1, 1) := by decide +kernel
theorem dL_law_216 : decode cL_law 216 = .ok (.aload_n 0, 1) := by decide +kernel
theorem dL_law_217 : decode cL_law 217 = .ok (.iload_n 3, 1) := by decide +kernel
theorem dL_law_218 : decode cL_law 218 = .ok (.iconst 1, 1) := by decide +kernel
theorem dL_law_219 : decode cL_law 219 = .ok (.iadd, 1) := by decide +kernel
theorem dL_law_220 : decode cL_law 220 = .ok (.iaload, 1) := by decide +kernel
theorem dL_law_221 : decode cL_law 221 = .ok (.aload_n 0, 1) := by decide +kernel
theorem dL_law_222 : decode cL_law 222 = .ok (.iload_n 3, 1) := by decide +kernel
theorem dL_law_223 : decode cL_law 223 = .ok (.iconst 2, 1) := by decide +kernel
theorem dL_law_224 : decode cL_law 224 = .ok (.iadd, 1) := by decide +kernel
theorem dL_law_225 : decode cL_law 225 = .ok (.iaload, 1) := by decide +kernel
theorem dL_law_226 : decode cL_law 226 = .ok (.invokevirtual 38, 3) := by decide +kernel
theorem dL_law_229 : decode cL_law 229 = .ok (.aload_n 2, 1) := by decide +kernel
theorem dL_law_230 : decode cL_law 230 = .ok (.aload_n 0, 1) := by decide +kernel
theorem dL_law_231 : decode cL_law 231 = .ok (.iload_n 3, 1) := by decide +kernel
theorem dL_law_232 : decode cL_law 232 = .ok (.iconst 1, 1) := by decide +kernel
theorem dL_law_233 : decode cL_law 233 = .ok (.iadd, 1) := by decide +kernel
theorem dL_law_234 : decode cL_law 234 = .ok (.iaload, 1) := by decide +kernel
theorem dL_law_235 : decode cL_law 235 = .ok (.aload_n 0, 1) := by decide +kernel
theorem dL_law_236 : decode cL_law 236 = .ok (.iload_n 3, 1) := by decide +kernel
theorem dL_law_237 : decode cL_law 237 = .ok (.iconst 2, 1) := by decide +kernel
theorem dL_law_238 : decode cL_law 238 = .ok (.iadd, 1) := by decide +kernel
theorem dL_law_239 : decode cL_law 239 = .ok (.iaload, 1) := by decide +kernel
theorem dL_law_240 : decode cL_law 240 = .ok (.invokevirtual 41, 3) := by decide +kernel
theorem dL_law_243 : decode cL_law 243 = .ok (.if_icmp .eq 41, 3) := by decide +kernel
theorem dL_law_246 : decode cL_law 246 = .ok (.iconst 0, 1) := by decide +kernel
theorem dL_law_247 : decode cL_law 247 = .ok (.ireturn, 1) := by decide +kernel
theorem dL_law_248 : decode cL_law 248 = .ok (.aload_n 1, 1) := by decide +kernel
theorem dL_law_249 : decode cL_law 249 = .ok (.aload_n 0, 1) := by decide +kernel
theorem dL_law_250 : decode cL_law 250 = .ok (.iload_n 3, 1) := by decide +kernel
theorem dL_law_251 : decode cL_law 251 = .ok (.iconst 1, 1) := by decide +kernel
theorem dL_law_252 : decode cL_law 252 = .ok (.iadd, 1) := by decide +kernel
theorem dL_law_253 : decode cL_law 253 = .ok (.iaload, 1) := by decide +kernel
theorem dL_law_254 : decode cL_law 254 = .ok (.invokevirtual 42, 3) := by decide +kernel
theorem dL_law_257 : decode cL_law 257 = .ok (.aload_n 2, 1) := by decide +kernel
theorem dL_law_258 : decode cL_law 258 = .ok (.aload_n 0, 1) := by decide +kernel
theorem dL_law_259 : decode cL_law 259 = .ok (.iload_n 3, 1) := by decide +kernel
theorem dL_law_260 : decode cL_law 260 = .ok (.iconst 1, 1) := by decide +kernel
theorem dL_law_261 : decode cL_law 261 = .ok (.iadd, 1) := by decide +kernel
theorem dL_law_262 : decode cL_law 262 = .ok (.iaload, 1) := by decide +kernel
theorem dL_law_263 : decode cL_law 263 = .ok (.invokevirtual 46, 3) := by decide +kernel
theorem dL_law_266 : decode cL_law 266 = .ok (.if_icmp .eq 18, 3) := by decide +kernel
theorem dL_law_269 : decode cL_law 269 = .ok (.iconst 0, 1) := by decide +kernel
theorem dL_law_270 : decode cL_law 270 = .ok (.ireturn, 1) := by decide +kernel
theorem dL_law_271 : decode cL_law 271 = .ok (.aload_n 1, 1) := by decide +kernel
theorem dL_law_272 : decode cL_law 272 = .ok (.invokevirtual 47, 3) := by decide +kernel
theorem dL_law_275 : decode cL_law 275 = .ok (.aload_n 2, 1) := by decide +kernel
theorem dL_law_276 : decode cL_law 276 = .ok (.invokevirtual 50, 3) := by decide +kernel
theorem dL_law_279 : decode cL_law 279 = .ok (.if_icmp .eq 5, 3) := by decide +kernel
theorem dL_law_282 : decode cL_law 282 = .ok (.iconst 0, 1) := by decide +kernel
theorem dL_law_283 : decode cL_law 283 = .ok (.ireturn, 1) := by decide +kernel
theorem dL_law_284 : decode cL_law 284 = .ok (.iinc 3 4, 3) := by decide +kernel
theorem dL_law_287 : decode cL_law 287 = .ok (.goto (-269), 3) := by decide +kernel
theorem dL_law_290 : decode cL_law 290 = .ok (.iconst 1, 1) := by decide +kernel
theorem dL_law_291 : decode cL_law 291 = .ok (.ireturn, 1) := by decide +kernel
abbrev vwCl : List vw_C := [(RX0, TX0, 7), (RX1, TX1, 7)]
end
section
/-! Rows of my own over the kit: loads and stores at a Nat place, contracts that read (rd_) and that write (wr_), their calls. -/
section RB
variable {p : Program} {l : Launch} {e : Env} {R : Room} {s : State} {m : MethodId} {args : Array Value} {below : List Frame} {meth : Method} {c : Code} {H : Heap} {locs : List Loc} {cells slots : Nat} {Q : State → Prop}
variable {cc : ByteArray} {pc : Nat} {ls : Array Slot} {rest : List Value} {D : va_G} {cl : List vw_C} {A : Nat → Prop} {a : Nat} {tys : List (ClassId × FieldType)} {ws : va_W} {H0 : Heap}
/-- another name for the top of the stack -/
theorem rb_top {x y : Int32} (h : x = y) (k : W p l e R s m args below meth c H locs cells slots Q (F0 m pc ls (.int y :: rest))) : W p l e R s m args below meth c H locs cells slots Q (F0 m pc ls (.int x :: rest)) := by
  rw [h]; exact k
theorem rb_bld (hexec : p.tables.exec = Jvm.exec) (hb : c.code = cc) (hK : va_K D cl tys s) (hP : va_P D cl ws H) (q0 t0 : Nat) {cA : ClassId} {n : Nat} {f : Nat → Int32} (ha : ws[q0]? = some (a, .inl (cA, n, .inl f))) (ht : tys[t0]? = some (cA, .byte)) {i : Nat} (hi : i < n) (hn : n < 2 ^ 31) (hdg : decode cc pc = .ok (.baload, 1))
    (kk : W p l e R s m args below meth c H locs cells slots Q (F0 m (pc + 1) ls (.int (f i) :: rest))) : W p l e R s m args below meth c H locs cells slots Q (F0 m pc ls (.int (nI i) :: .ref a :: rest)) :=
  va_bald hexec hb hK hP q0 t0 ha ht (vp_in_nI hi hn) hdg (by rw [nI_clamp (Nat.lt_trans hi hn)]; exact kk)
theorem rb_ild (hexec : p.tables.exec = Jvm.exec) (hb : c.code = cc) (hK : va_K D cl tys s) (hP : va_P D cl ws H) (q0 t0 : Nat) {cA : ClassId} {n : Nat} {f : Nat → Int32} (ha : ws[q0]? = some (a, .inl (cA, n, .inl f))) (ht : tys[t0]? = some (cA, .int)) {i : Nat} (hi : i < n) (hn : n < 2 ^ 31) (hdg : decode cc pc = .ok (.iaload, 1))
    (kk : W p l e R s m args below meth c H locs cells slots Q (F0 m (pc + 1) ls (.int (f i) :: rest))) : W p l e R s m args below meth c H locs cells slots Q (F0 m pc ls (.int (nI i) :: .ref a :: rest)) :=
  va_iald hexec hb hK hP q0 t0 ha ht (vp_in_nI hi hn) hdg (by rw [nI_clamp (Nat.lt_trans hi hn)]; exact kk)
theorem rb_bst (hexec : p.tables.exec = Jvm.exec) (hb : c.code = cc) (hK : va_K D cl tys s) (hP : va_P D cl ws H) (hD : va_D A ws) (hS : va_S A H0 H locs) (q0 t0 : Nat) {cA : ClassId} {n : Nat} {f : Nat → Int32} (ha : ws[q0]? = some (a, .inl (cA, n, .inl f))) (ht : tys[t0]? = some (cA, .byte)) {i : Nat} {x : Int32} (hi : i < n) (hn : n < 2 ^ 31) (hx : x.toInt8.toInt32 = x) (hdg : decode cc pc = .ok (.bastore, 1))
    (kk : ∀ (H1 : Heap) (locs1 : List Loc), va_P D cl (ws.set q0 (a, .inl (cA, n, .inl (upd f i x)))) H1 → va_D A (ws.set q0 (a, .inl (cA, n, .inl (upd f i x)))) → va_S A H0 H1 locs1 → W p l e R s m args below meth c H1 locs1 cells slots Q (F0 m (pc + 1) ls rest)) : W p l e R s m args below meth c H locs cells slots Q (F0 m pc ls (.int x :: .int (nI i) :: .ref a :: rest)) := by
  refine va_bast hexec hb hK hP hD hS q0 t0 ha ht (vp_in_nI hi hn) hdg (fun H1 locs1 h1 h2 h3 => ?_)
  rw [nI_clamp (Nat.lt_trans hi hn), vp_nar_byte, hx] at h1 h2
  exact kk H1 locs1 h1 h2 h3
theorem rb_ist (hexec : p.tables.exec = Jvm.exec) (hb : c.code = cc) (hK : va_K D cl tys s) (hP : va_P D cl ws H) (hD : va_D A ws) (hS : va_S A H0 H locs) (q0 t0 : Nat) {cA : ClassId} {n : Nat} {f : Nat → Int32} (ha : ws[q0]? = some (a, .inl (cA, n, .inl f))) (ht : tys[t0]? = some (cA, .int)) {i : Nat} {x : Int32} (hi : i < n) (hn : n < 2 ^ 31) (hdg : decode cc pc = .ok (.iastore, 1))
    (kk : ∀ (H1 : Heap) (locs1 : List Loc), va_P D cl (ws.set q0 (a, .inl (cA, n, .inl (upd f i x)))) H1 → va_D A (ws.set q0 (a, .inl (cA, n, .inl (upd f i x)))) → va_S A H0 H1 locs1 → W p l e R s m args below meth c H1 locs1 cells slots Q (F0 m (pc + 1) ls rest)) : W p l e R s m args below meth c H locs cells slots Q (F0 m pc ls (.int x :: .int (nI i) :: .ref a :: rest)) := by
  refine va_iast hexec hb hK hP hD hS q0 t0 ha ht (vp_in_nI hi hn) hdg (fun H1 locs1 h1 h2 h3 => ?_)
  rw [nI_clamp (Nat.lt_trans hi hn)] at h1 h2
  exact kk H1 locs1 h1 h2 h3
end RB
/-- a contract that reads: its start, any frame -/
abbrev rd_P (D : va_G) (cl : List vw_C) (tys : List (ClassId × FieldType)) (av : List Value) (wc : va_W) : Array Value → State → Prop := va_Pc av (fun U => va_P D cl wc U.heap ∧ va_K D cl tys U)
/-- a contract that writes: its start; its end with the answer r and the world w1 -/
abbrev wr_P (D : va_G) (cl : List vw_C) (tys : List (ClassId × FieldType)) (av : List Value) (wc : va_W) (sz : Nat) : Array Value → State → Prop := va_Pc av (fun U => U.heap.size = sz ∧ va_P D cl wc U.heap ∧ va_K D cl tys U ∧ va_D (fun _ => True) wc)
abbrev wr_Q (D : va_G) (cl : List vw_C) (tys : List (ClassId × FieldType)) (wc w1 : va_W) (sz : Nat) (r : Int32) : Array Value → State → Outcome → State → Prop := va_Qi (fun (r' : Int32) (_ : Unit) => r' = r) (fun _ t => va_P D cl w1 t.heap ∧ va_K D cl tys t ∧ va_D (va_A wc sz) w1) (va_A wc sz)
/-- a constructor's end: some addresses and array classes u, the world w1 u -/
abbrev ct_Q {S : Type} (D : va_G) (cl : List vw_C) (tys : S → List (ClassId × FieldType)) (wc : va_W) (w1 : S → va_W) (sz : Nat) : Array Value → State → Outcome → State → Prop := va_Qv (fun _ : S => True) (fun u t => va_P D cl (w1 u) t.heap ∧ va_K D cl (tys u) t ∧ va_D (va_A wc sz) (w1 u)) (va_A wc sz)
theorem rd_blind {D : va_G} {cl : List vw_C} {tys : List (ClassId × FieldType)} {av : List Value} {wc : va_W} : FrameBlind (rd_P D cl tys av wc) := fun a U g mk q => by
  obtain ⟨q0, qP, qK⟩ := q
  exact ⟨q0, qP, va_K.moved (u := U) (U := U.calling g mk a) (Vm.Alike.refl U.vm) qK⟩
theorem wr_blind {D : va_G} {cl : List vw_C} {tys : List (ClassId × FieldType)} {av : List Value} {wc : va_W} {sz : Nat} : FrameBlind (wr_P D cl tys av wc sz) := fun a U g mk q => by
  obtain ⟨q0, q1, qP, qK, qD⟩ := q
  exact ⟨q0, q1, qP, va_K.moved (u := U) (U := U.calling g mk a) (Vm.Alike.refl U.vm) qK, qD⟩
theorem rb_Psub {D : va_G} {cl : List vw_C} {ws ws' : va_W} {H : Heap} (h : va_P D cl ws H) (is : List Nat) (hs : is.map (fun i => ws[i]?) = ws'.map some) : va_P D cl ws' H := by
  intro k q hk
  have h1 : (is.map (fun i => ws[i]?))[k]? = some (some q) := by rw [hs, List.getElem?_map, hk]; rfl
  rw [List.getElem?_map] at h1
  cases hi : is[k]? with
  | none => rw [hi] at h1; cases h1
  | some i => rw [hi] at h1; exact h i q (Option.some.inj h1)
section RC
variable {l : Launch} {y : MethodName} {ws0 ws' : List Cond} {rm : Room} {D : va_G} {cl : List vw_C} {tys : List (ClassId × FieldType)} {av : List Value} {wc w1 : va_W} {r : Int32} {cc : ByteArray} {maxL mc ms sz : Nat} {ty : FieldType}
/-- a method that reads alone: its contract out of its walk -/
theorem rd_of (hy : plainName y.cls = true) (hw : ws0 = Cond.code y cc maxL (some ty) :: ws') (hnar : narrow ty (.int r) = .int r) (hsl : (lg_sl av).length ≤ maxL)
    (body : ∀ (p : Program) (e : Env) (s : State) (m : MethodId) (args : Array Value) (below : List Frame) (meth : Method) (c : Code) (ls : Array Slot) (Q : State → Prop), p.tables.exec = Jvm.exec → c.code = cc → c.maxLocals = maxL → s.vm.findClass y.cls = some m.cls → (∀ w ∈ ws0, w.before args s = true) → va_K D cl tys s → va_P D cl wc s.heap → lv_has ls maxL (lv_args 0 av) →
      (∀ (pc : Nat) (ls' : Array Slot), decode cc pc = .ok (.ireturn, 1) → W p l e rm s m args below meth c s.heap [] 0 0 Q (F0 m pc ls' [.int r])) → W p l e rm s m args below meth c s.heap [] 0 0 Q (F0 m 0 ls [])) :
    Met l y ws0 rm (rd_P D cl tys av wc) (QcRead r) 0 0 (fun _ => False) := by
  refine Met.ofW (cc := cc) (maxL := maxL) (ret := some ty) hy hw ?_
  intro p e s m args below meth c s₁ B hml hv
  obtain ⟨rfl, hP, hK⟩ := hv
  have hlocks := B.notSynchronized
  have hr := B.returns
  rw [lg_entry_eq]
  refine body p e s m _ below meth c _ _ B.exec B.bytes hml (findClass_of_methodNamed B.named) (atoms_spec (ws := ws0) B.pre) hK hP (lv_entry av hsl) (fun pc ls' hd => ?_)
  exact W.zret B.exec B.bytes hr hnar (fun t ht _ => ⟨rfl, ht⟩) (fun q hq => by cases hq) hd
/-- a method that writes: its contract out of its walk -/
theorem wr_of (hy : plainName y.cls = true) (hw : ws0 = Cond.code y cc maxL (some ty) :: ws') (hnar : narrow ty (.int r) = .int r) (hsl : (lg_sl av).length ≤ maxL)
    (body : ∀ (p : Program) (e : Env) (s : State) (m : MethodId) (args : Array Value) (below : List Frame) (meth : Method) (c : Code) (ls : Array Slot) (Q : State → Prop) (A : Nat → Prop), p.tables.exec = Jvm.exec → c.code = cc → c.maxLocals = maxL → s.vm.findClass y.cls = some m.cls → (∀ w ∈ ws0, w.before args s = true) → va_K D cl tys s → (∀ q : Nat, s.heap.size ≤ q → A q) → va_P D cl wc s.heap → va_D A wc → va_S A s.heap s.heap [] → lv_has ls maxL (lv_args 0 av) →
      (∀ (pc : Nat) (ls' : Array Slot) (H : Heap) (locs : List Loc), decode cc pc = .ok (.ireturn, 1) → va_P D cl w1 H → va_D A w1 → va_S A s.heap H locs → W p l e rm s m args below meth c H locs mc ms Q (F0 m pc ls' [.int r])) → W p l e rm s m args below meth c s.heap [] 0 0 Q (F0 m 0 ls [])) :
    Met l y ws0 rm (wr_P D cl tys av wc sz) (wr_Q D cl tys wc w1 sz r) mc ms (va_A wc sz) := by
  refine Met.ofW (cc := cc) (maxL := maxL) (ret := some ty) hy hw ?_
  intro p e s m args below meth c s₁ B hml hv
  obtain ⟨rfl, hsz, hP, hK, hD0⟩ := hv
  have hlocks := B.notSynchronized
  have hr := B.returns
  subst hsz
  rw [lg_entry_eq]
  refine body p e s m _ below meth c _ _ (va_A wc s.heap.size) B.exec B.bytes hml (findClass_of_methodNamed B.named) (atoms_spec (ws := ws0) B.pre) hK (fun q h => Or.inr h) hP hD0.self va_S.rf (lv_entry av hsl) (fun pc ls' H locs hd hP1 hD1 hS1 => ?_)
  exact W.zret B.exec B.bytes hr hnar (fun t ht hW => ⟨⟨r, (), rfl, rfl, by rw [ht]; exact hP1, va_K.moved hW.alike hK, hD1⟩, hS1.F ht⟩) hS1.2.2 hd
/-- a constructor: its contract out of its walk -/
theorem ct_of {S : Type} {tys1 : S → List (ClassId × FieldType)} {w2 : S → va_W} (hy : plainName y.cls = true) (hw : ws0 = Cond.code y cc maxL none :: ws') (hsl : (lg_sl av).length ≤ maxL)
    (body : ∀ (p : Program) (e : Env) (s : State) (m : MethodId) (args : Array Value) (below : List Frame) (meth : Method) (c : Code) (ls : Array Slot) (Q : State → Prop) (A : Nat → Prop), p.tables.exec = Jvm.exec → c.code = cc → c.maxLocals = maxL → s.vm.findClass y.cls = some m.cls → (∀ w ∈ ws0, w.before args s = true) → meth.name = y.name → va_K D cl tys s → (∀ q : Nat, s.heap.size ≤ q → A q) → va_P D cl wc s.heap → va_D A wc → va_S A s.heap s.heap [] → lv_has ls maxL (lv_args 0 av) →
      (∀ (u : S) (pc : Nat) (ls' : Array Slot) (H : Heap) (locs : List Loc), decode cc pc = .ok (.return_, 1) → va_K D cl (tys1 u) s → va_P D cl (w2 u) H → va_D A (w2 u) → va_S A s.heap H locs → W p l e rm s m args below meth c H locs mc ms Q (F0 m pc ls' [])) → W p l e rm s m args below meth c s.heap [] 0 0 Q (F0 m 0 ls [])) :
    Met l y ws0 rm (wr_P D cl tys av wc sz) (ct_Q D cl tys1 wc w2 sz) mc ms (va_A wc sz) := by
  refine Met.ofW (cc := cc) (maxL := maxL) (ret := none) hy hw ?_
  intro p e s m args below meth c s₁ B hml hv
  obtain ⟨rfl, hsz, hP, hK, hD0⟩ := hv
  have hlocks := B.notSynchronized
  have hr := B.returns
  subst hsz
  rw [lg_entry_eq]
  refine body p e s m _ below meth c _ _ (va_A wc s.heap.size) B.exec B.bytes hml (findClass_of_methodNamed B.named) (atoms_spec (ws := ws0) B.pre) (name_of_methodNamed B.named B.method).1 hK (fun q h => Or.inr h) hP hD0.self va_S.rf (lv_entry av hsl) (fun u pc ls' H locs hd hK1 hP1 hD1 hS1 => ?_)
  exact W.vret B.exec B.bytes hr (fun t ht hW => ⟨⟨u, rfl, trivial, by rw [ht]; exact hP1, va_K.moved hW.alike hK1, hD1⟩, hS1.F ht⟩) hS1.2.2 hd
end RC
section RD
variable {p : Program} {l : Launch} {e : Env} {R : Room} {s : State} {m : MethodId} {args : Array Value} {below : List Frame} {meth : Method} {c : Code} {H : Heap} {locs : List Loc} {cells slots : Nat} {Q : State → Prop}
variable {cc bytes : ByteArray} {pc : Nat} {ls : Array Slot} {rest st0 As : List Value} {D : va_G} {cl : List vw_C} {A : Nat → Prop} {tys : List (ClassId × FieldType)} {H0 : Heap}
variable {y : MethodName} {ws0 Ts : List Cond} {rm : Room} {r : Int32} {nL idx maxL n ci b mc ms : Nat} {own C : String} {ret : Option FieldType} {fs : List Value} {qc : vw_C} {wc ww wr w1 : va_W}
/-- a call of a method that reads: heap and world stay as they are -/
theorem rd_call (S : CallFix p m c cc nL s args Ts own) (hM : Met l y ws0 rm (rd_P D cl tys (.ref b :: As) wc) (QcRead r) 0 0 (fun _ => False)) (cw : CallW R s args own C idx y bytes maxL ret ws0 rm 0 0 n) (hK : va_K D cl tys s) (hP : va_P D cl wc H) (hc : cl[ci]? = some qc) (hC : qc.1 = C) (he : wc[0]? = some (b, .inr (ci, fs)))
    (hn : As.length = n) (hsize : ls.size = nL) (hstack : st0 = As.reverse ++ .ref b :: rest) (hroom : (rest.map fun v => v.category).sum ≤ 8) (hdg : decode cc pc = .ok (.invokevirtual idx, 3)) (hf : cells ≤ R.cells ∧ slots ≤ R.slots)
    (kk : W p l e R s m args below meth c H locs cells slots Q (F0 m (pc + 3) ls (.int r :: rest))) : W p l e R s m args below meth c H locs cells slots Q (F0 m pc ls st0) := by
  subst hC
  exact W.callR (W.runV S hM cw ⟨rd_blind, va_recv hK hP hc he, fun U hU hW => ⟨rfl, by rw [hU]; exact hP, va_K.moved hW.alike hK⟩⟩ rfl hn hsize hstack (lv_room hroom) hdg hf) kk
/-- a call of a method that writes: what it doesn't hold stays -/
theorem wr_call (S : CallFix p m c cc nL s args Ts own) (hM : Met l y ws0 rm (wr_P D cl tys (.ref b :: As) wc H.size) (wr_Q D cl tys wc w1 H.size r) mc ms (va_A wc H.size)) (cw : CallW R s args own C idx y bytes maxL ret ws0 rm mc ms n) (hK : va_K D cl tys s) (hP : va_P D cl ww H) (hD : va_D A ww) (hS : va_S A H0 H locs) (hA : ∀ q, H0.size ≤ q → A q)
    (isC isR : List Nat) (hCi : isC.map (fun i => ww[i]?) = wc.map some) (hRi : isR.map (fun i => ww[i]?) = wr.map some) (hnC : va_nd isC = true) (hnR : va_nd isR = true) (hdis : ∀ i ∈ isR, i ∉ isC) (hc : cl[ci]? = some qc) (hC : qc.1 = C) (he : wc[0]? = some (b, .inr (ci, fs)))
    (hn : As.length = n) (hsize : ls.size = nL) (hstack : st0 = As.reverse ++ .ref b :: rest) (hroom : (rest.map fun v => v.category).sum ≤ 8) (hdg : decode cc pc = .ok (.invokevirtual idx, 3)) (hf : cells + mc ≤ R.cells ∧ slots + ms ≤ R.slots)
    (kk : ∀ (H1 : Heap) (locs1 : List Loc), va_P D cl (wr ++ w1) H1 → va_D A (wr ++ w1) → va_S A H0 H1 locs1 → W p l e R s m args below meth c H1 locs1 (cells + mc) (slots + ms) Q (F0 m (pc + 3) ls (.int r :: rest))) : W p l e R s m args below meth c H locs cells slots Q (F0 m pc ls st0) := by
  have hPc : va_P D cl wc H := rb_Psub hP isC hCi
  have hDc : va_D A wc := hD.sub isC hnC hCi
  have hFc := va_free (wc := wc) hD hS hA isC hCi
  subst hC
  refine va_calli (va_runV S hM cw ⟨wr_blind, va_recv hK hPc hc he, fun U hU hW => ⟨rfl, by rw [hU], by rw [hU]; exact hPc, va_K.moved hW.alike hK, hDc.weaken (fun _ _ _ _ => trivial)⟩⟩ rfl hn hsize hstack (lv_room hroom) hdg hf) hS (fun q _ h => hFc q h) hFc (fun r' u t H1 locs1 ht hvm hw hB hz1 hk1 hS1 => ?_)
  obtain ⟨hP1, hK1, hD1⟩ := hB
  rw [ht] at hP1
  have hw : r' = r := hw
  obtain ⟨hP2, hD2⟩ := va_join hP hD isC isR hCi hRi hnR hdis hk1 hFc hP1 hD1
  rw [hw]
  exact kk H1 locs1 hP2 hD2 hS1
/-- a call of a constructor -/
theorem ct_call {S : Type} {tys1 : S → List (ClassId × FieldType)} {w2 : S → va_W} (hfix : CallFix p m c cc nL s args Ts own) (hM : Met l y ws0 rm (wr_P D cl tys (.ref b :: As) wc H.size) (ct_Q D cl tys1 wc w2 H.size) mc ms (va_A wc H.size)) (cw : CallB R s args own idx y bytes maxL none ws0 rm mc ms n ∧ y.name = "<init>" ∧ (Cond.instanceMethod y).before args s = true) (hK : va_K D cl tys s) (hP : va_P D cl ww H) (hD : va_D A ww) (hS : va_S A H0 H locs) (hA : ∀ q, H0.size ≤ q → A q)
    (isC isR : List Nat) (hCi : isC.map (fun i => ww[i]?) = wc.map some) (hRi : isR.map (fun i => ww[i]?) = wr.map some) (hnC : va_nd isC = true) (hnR : va_nd isR = true) (hdis : ∀ i ∈ isR, i ∉ isC)
    (hn : As.length = n) (hsize : ls.size = nL) (hstack : st0 = As.reverse ++ .ref b :: rest) (hroom : (rest.map fun v => v.category).sum ≤ 8) (hdg : decode cc pc = .ok (.invokespecial idx, 3)) (hf : cells + mc ≤ R.cells ∧ slots + ms ≤ R.slots)
    (kk : ∀ (u : S) (H1 : Heap) (locs1 : List Loc), va_K D cl (tys1 u) s → va_P D cl (wr ++ w2 u) H1 → va_D A (wr ++ w2 u) → va_S A H0 H1 locs1 → W p l e R s m args below meth c H1 locs1 (cells + mc) (slots + ms) Q (F0 m (pc + 3) ls rest)) : W p l e R s m args below meth c H locs cells slots Q (F0 m pc ls st0) := by
  have hPc : va_P D cl wc H := rb_Psub hP isC hCi
  have hDc : va_D A wc := hD.sub isC hnC hCi
  have hFc := va_free (wc := wc) hD hS hA isC hCi
  refine va_callv (va_runI hfix hM cw ⟨wr_blind, fun U hU hW => ⟨rfl, by rw [hU], by rw [hU]; exact hPc, va_K.moved hW.alike hK, hDc.weaken (fun _ _ _ _ => trivial)⟩⟩ rfl hn hsize hstack (lv_room hroom) hdg hf) hS (fun q _ h => hFc q h) hFc (fun u t H1 locs1 ht hvm hw hB hz1 hk1 hS1 => ?_)
  obtain ⟨hP1, hK1, hD1⟩ := hB
  rw [ht] at hP1
  have hK1 := va_K.moved hvm.symm hK1
  obtain ⟨hP2, hD2⟩ := va_join hP hD isC isR hCi hRi hnR hdis hk1 hFc hP1 hD1
  exact kk u H1 locs1 hK1 hP2 hD2 hS1
end RD
end
section
/-! Pure words of mine: what its methods answer, out of the numbers that its cells hold. -/
def rn_b (b : Bool) : Int32 := if b = true then 1 else 0
theorem rn_b_nar (b : Bool) : narrow .boolean (.int (rn_b b)) = .int (rn_b b) := by cases b <;> rfl
theorem rn_b_ne {b : Bool} (h : ¬ rn_b b = 0) : b = true := by
  cases b with
  | false => exact absurd rfl h
  | true => rfl
theorem rn_b_eq {b : Bool} (h : rn_b b = 0) : b = false := by
  cases b with
  | false => rfl
  | true => exact absurd h (by decide)
theorem rn_b1 {b : Bool} (h : b = true) : nI 1 = rn_b b := by rw [h]; rfl
theorem rn_b0 {b : Bool} (h : b = false) : nI 0 = rn_b b := by rw [h]; rfl
/-- x is a number below k -/
def rn_kn (x : Int32) (k : Nat) : Bool := decide (0 ≤ x ∧ x < nI k)
theorem rn_kn_t {x : Int32} {k : Nat} (hk : k < 2 ^ 31) (h : rn_kn x k = true) : ∃ j : Nat, j < k ∧ x = nI j := by
  obtain ⟨h1, h2⟩ := of_decide_eq_true h
  rcases pk_ix x hk with q | q | q
  · rw [Int32.le_iff_toInt_le] at h1
    rw [Int32.lt_iff_toInt_lt] at q
    omega
  · rw [Int32.lt_iff_toInt_lt] at h2
    rw [Int32.le_iff_toInt_le] at q
    omega
  · exact q
theorem rn_kn_of {j k : Nat} (h : j < k) (hk : k < 2 ^ 31) : rn_kn (nI j) k = true := decide_eq_true ⟨nI_pos' (by omega), nI_lt h hk⟩
theorem rn_kn_f1 {x : Int32} {k : Nat} (h : x < 0) : rn_kn x k = false := decide_eq_false (fun q => by
  have q1 := q.1
  rw [Int32.le_iff_toInt_le] at q1
  rw [Int32.lt_iff_toInt_lt] at h
  omega)
theorem rn_kn_f2 {x : Int32} {k : Nat} (h : nI k ≤ x) : rn_kn x k = false := decide_eq_false (fun q => by
  have q1 := q.2
  rw [Int32.lt_iff_toInt_lt] at q1
  rw [Int32.le_iff_toInt_le] at h
  omega)
theorem rn_kn_tt {x : Int32} {k : Nat} (h : ¬ x < 0) (h2 : ¬ nI k ≤ x) : rn_kn x k = true := decide_eq_true (by
  rw [Int32.lt_iff_toInt_lt] at h
  rw [Int32.le_iff_toInt_le] at h2
  constructor
  · rw [Int32.le_iff_toInt_le]; omega
  · rw [Int32.lt_iff_toInt_lt]; omega)
/-- the first place from j on, in f steps, at which P holds; -1: none -/
def rn_ff (P : Nat → Bool) : Nat → Nat → Int32
  | 0, _ => -1
  | f + 1, j => if P j = true then nI j else rn_ff P f (j + 1)
/-- a sum over f places from j on -/
def rn_fo (g : Nat → Int32 → Int32) : Nat → Nat → Int32 → Int32
  | 0, _, a => a
  | f + 1, j, a => rn_fo g f (j + 1) (g j a)
theorem rn_ff_t {P : Nat → Bool} {f j : Nat} (h : P j = true) : rn_ff P (f + 1) j = nI j := by simp [rn_ff, h]
theorem rn_ff_f {P : Nat → Bool} {f j : Nat} (h : P j = false) : rn_ff P (f + 1) j = rn_ff P f (j + 1) := by simp [rn_ff, h]
theorem rn_ff_or (P : Nat → Bool) : ∀ (f j : Nat), (rn_ff P f j = -1 ∧ ∀ x, j ≤ x → x < j + f → P x = false) ∨ ∃ x, j ≤ x ∧ x < j + f ∧ P x = true ∧ rn_ff P f j = nI x ∧ ∀ z, j ≤ z → z < x → P z = false
  | 0, j => Or.inl ⟨rfl, fun x h1 h2 => absurd h2 (by omega)⟩
  | f + 1, j => by
    cases h : P j with
    | true => exact Or.inr ⟨j, Nat.le_refl j, by omega, h, rn_ff_t h, fun z h1 h2 => absurd h2 (by omega)⟩
    | false =>
      rcases rn_ff_or P f (j + 1) with ⟨a1, a2⟩ | ⟨x, b1, b2, b3, b4, b5⟩
      · refine Or.inl ⟨by rw [rn_ff_f h]; exact a1, fun x h1 h2 => ?_⟩
        rcases Nat.eq_or_lt_of_le h1 with q | q
        · rw [← q]; exact h
        · exact a2 x q (by omega)
      · refine Or.inr ⟨x, by omega, by omega, b3, by rw [rn_ff_f h]; exact b4, fun z h1 h2 => ?_⟩
        rcases Nat.eq_or_lt_of_le h1 with q | q
        · rw [← q]; exact h
        · exact b5 z q h2
/-- name j is the one in hand -/
def rn_mt (fh : Nat → Int32) (n : Nat) (fb fl : Nat → Int32) (j : Nat) : Bool := decide (fl j = nI n ∧ ∀ i, i < n → fb (j * 60 + i) = fh i)
def rn_gi (fg : Nat → Int32) (j : Nat) : Bool := decide (¬ fg j = 0)
def rn_mi (fg fr : Nat → Int32) (j : Nat) : Bool := decide (¬ fr j = 0 ∧ fg j = 0)
/-- the byte of v that has f behind it -/
def rn_by (v : Int64) (f : Nat) : Int32 := ((v.toUInt64 >>> ((nI (8 * f)).toInt64.toUInt64 &&& Int64.toUInt64 63)).toInt64).toInt32.toInt8.toInt32
def rn_pu (v : Int64) : Nat → Nat → (Nat → Int32) → (Nat → Int32)
  | 0, _, fh => fh
  | f + 1, n, fh => rn_pu v f (n + 1) (upd fh n (rn_by v f))
theorem rn_cpy_s (f g : Nat → Int32) (d i : Nat) : upd (va_cpy f g 0 d i) (d + i) (f i) = va_cpy f g 0 d (i + 1) := by
  funext x
  by_cases h : x = d + i
  · subst h
    rw [pk_us, pk_cpy_in (by omega) (by omega)]
    congr 1
    omega
  · rw [pk_un h]
    by_cases h2 : d ≤ x ∧ x < d + i
    · rw [pk_cpy_in h2.1 h2.2, pk_cpy_in h2.1 (by omega)]
    · rw [pk_cpy_out (by omega), pk_cpy_out (by omega)]
theorem rn_cpy_0 (f g : Nat → Int32) (d : Nat) : va_cpy f g 0 d 0 = g := by
  funext x
  exact pk_cpy_out (by omega)
/-- a switch over 0 .. 3, over 0 .. 5 -/
theorem rn_sw {x : Int32} {n : Nat} (hn : n < 2 ^ 31) : (∃ j : Nat, j < n ∧ x = nI j) ∨ (x.toInt < 0 ∨ (n : Int) - 1 < x.toInt) := by
  rcases pk_ix x hn with q | q | q
  · refine Or.inr (Or.inl ?_)
    rw [Int32.lt_iff_toInt_lt] at q
    exact q
  · refine Or.inr (Or.inr ?_)
    rw [Int32.le_iff_toInt_le, nI_toInt hn] at q
    omega
  · exact Or.inl q
/-- its state: hand, its length, bytes, lengths, givings, referrals, how many are known -/
abbrev rn_S : Type := (Nat → Int32) × Nat × (Nat → Int32) × (Nat → Int32) × (Nat → Int32) × (Nat → Int32) × Nat
def rn_g1 (fg : Nat → Int32) (j : Nat) (a : Int32) : Int32 := if rn_gi fg j = true then a + 1 else a
def rn_g2 (fg fr : Nat → Int32) (j : Nat) (a : Int32) : Int32 := if rn_mi fg fr j = true then a + 1 else a
def rn_g3 (fg : Nat → Int32) (j : Nat) (a : Int32) : Int32 := if rn_gi fg j = true then a + (fg j - 1) else a
theorem rn_g1_t {fg : Nat → Int32} {j : Nat} {a : Int32} (h : rn_gi fg j = true) : rn_g1 fg j a = a + 1 := if_pos h
theorem rn_g1_f {fg : Nat → Int32} {j : Nat} {a : Int32} (h : rn_gi fg j = false) : rn_g1 fg j a = a := if_neg (by rw [h]; decide)
theorem rn_g2_t {fg fr : Nat → Int32} {j : Nat} {a : Int32} (h : rn_mi fg fr j = true) : rn_g2 fg fr j a = a + 1 := if_pos h
theorem rn_g2_f {fg fr : Nat → Int32} {j : Nat} {a : Int32} (h : rn_mi fg fr j = false) : rn_g2 fg fr j a = a := if_neg (by rw [h]; decide)
theorem rn_g3_t {fg : Nat → Int32} {j : Nat} {a : Int32} (h : rn_gi fg j = true) : rn_g3 fg j a = a + (fg j - 1) := if_pos h
theorem rn_g3_f {fg : Nat → Int32} {j : Nat} {a : Int32} (h : rn_gi fg j = false) : rn_g3 fg j a = a := if_neg (by rw [h]; decide)
theorem rn_fo_s {g : Nat → Int32 → Int32} {f j : Nat} {a b : Int32} (h : g j a = b) : rn_fo g (f + 1) j a = rn_fo g f (j + 1) b := by
  rw [← h]; rfl
theorem rn_out {w : Int32} {n i : Nat} (h : w.toInt < 0 ∨ (n : Int) - 1 < w.toInt) (hi : i < n) (hn : n < 2 ^ 31) : ¬ w = nI i := by
  intro q
  rw [q, nI_toInt (by omega)] at h
  omega
def rn_look (fl fg fr : Nat → Int32) (k : Nat) (x w : Int32) : Int32 := if rn_kn x k = true then (if w = nI 0 then fg x.toNatClampNeg else if w = nI 1 then fr x.toNatClampNeg else if w = nI 2 then fl x.toNatClampNeg else if w = nI 3 then rn_ff (rn_mi fg fr) (k - (x.toNatClampNeg + 1)) (x.toNatClampNeg + 1) else -1) else -1
section LK
variable {fh fl fg fr fb : Nat → Int32} {k j n : Nat} {x w : Int32}
theorem rn_look_f (h : rn_kn x k = false) : rn_look fl fg fr k x w = -1 := if_neg (by rw [h]; decide)
theorem rn_look_0 (h : j < k) (hk : k < 2 ^ 31) : rn_look fl fg fr k (nI j) (nI 0) = fg j := by
  unfold rn_look; rw [if_pos (rn_kn_of h hk), nI_clamp (by omega), if_pos rfl]
theorem rn_look_1 (h : j < k) (hk : k < 2 ^ 31) : rn_look fl fg fr k (nI j) (nI 1) = fr j := by
  unfold rn_look; rw [if_pos (rn_kn_of h hk), nI_clamp (by omega), if_neg (by decide), if_pos rfl]
theorem rn_look_2 (h : j < k) (hk : k < 2 ^ 31) : rn_look fl fg fr k (nI j) (nI 2) = fl j := by
  unfold rn_look; rw [if_pos (rn_kn_of h hk), nI_clamp (by omega), if_neg (by decide), if_neg (by decide), if_pos rfl]
theorem rn_look_3 (h : j < k) (hk : k < 2 ^ 31) : rn_look fl fg fr k (nI j) (nI 3) = rn_ff (rn_mi fg fr) (k - (j + 1)) (j + 1) := by
  unfold rn_look; rw [if_pos (rn_kn_of h hk), nI_clamp (by omega), if_neg (by decide), if_neg (by decide), if_neg (by decide), if_pos rfl]
theorem rn_look_d (h : w.toInt < 0 ∨ ((4 : Nat) : Int) - 1 < w.toInt) : rn_look fl fg fr k x w = -1 := by
  unfold rn_look
  rw [if_neg (rn_out h (by decide) (by decide)), if_neg (rn_out h (by decide) (by decide)), if_neg (rn_out h (by decide) (by decide)), if_neg (rn_out h (by decide) (by decide))]
  split <;> rfl
end LK
def rn_bo (fb fl : Nat → Int32) (k : Nat) (x i : Int32) : Int32 := if rn_kn x k = true ∧ ¬ i < 0 ∧ i < fl x.toNatClampNeg then fb (x.toNatClampNeg * 60 + i.toNatClampNeg) &&& nI 255 else -1
def rn_cnt (n : Nat) (fg fr : Nat → Int32) (k : Nat) (w : Int32) : Int32 := if w = nI 0 then nI k else if w = nI 1 then rn_fo (rn_g1 fg) k 0 0 else if w = nI 2 then rn_fo (rn_g2 fg fr) k 0 0 else if w = nI 3 then rn_fo (rn_g3 fg) k 0 0 else if w = nI 4 then nI n else if w = nI 5 then rn_ff (rn_mi fg fr) k 0 else -1
section CN
variable {fg fr : Nat → Int32} {k n : Nat} {w : Int32}
theorem rn_cnt_0 : rn_cnt n fg fr k (nI 0) = nI k := if_pos rfl
theorem rn_cnt_1 : rn_cnt n fg fr k (nI 1) = rn_fo (rn_g1 fg) k 0 0 := by
  unfold rn_cnt; rw [if_neg (by decide), if_pos rfl]
theorem rn_cnt_2 : rn_cnt n fg fr k (nI 2) = rn_fo (rn_g2 fg fr) k 0 0 := by
  unfold rn_cnt; rw [if_neg (by decide), if_neg (by decide), if_pos rfl]
theorem rn_cnt_3 : rn_cnt n fg fr k (nI 3) = rn_fo (rn_g3 fg) k 0 0 := by
  unfold rn_cnt; rw [if_neg (by decide), if_neg (by decide), if_neg (by decide), if_pos rfl]
theorem rn_cnt_4 : rn_cnt n fg fr k (nI 4) = nI n := by
  unfold rn_cnt; rw [if_neg (by decide), if_neg (by decide), if_neg (by decide), if_neg (by decide), if_pos rfl]
theorem rn_cnt_5 : rn_cnt n fg fr k (nI 5) = rn_ff (rn_mi fg fr) k 0 := by
  unfold rn_cnt; rw [if_neg (by decide), if_neg (by decide), if_neg (by decide), if_neg (by decide), if_neg (by decide), if_pos rfl]
theorem rn_cnt_d (h : w.toInt < 0 ∨ ((6 : Nat) : Int) - 1 < w.toInt) : rn_cnt n fg fr k w = -1 := by
  unfold rn_cnt
  rw [if_neg (rn_out h (by decide) (by decide)), if_neg (rn_out h (by decide) (by decide)), if_neg (rn_out h (by decide) (by decide)), if_neg (rn_out h (by decide) (by decide)), if_neg (rn_out h (by decide) (by decide)), if_neg (rn_out h (by decide) (by decide))]
end CN
/-- what the methods that write answer, and the state behind them -/
def rn_le (fh : Nat → Int32) (n : Nat) (fb fl fg fr : Nat → Int32) (k : Nat) : Int32 × rn_S := if k < 200 then (nI k, fh, n, va_cpy fh fb 0 (k * 60) n, upd fl k (nI n), upd fg k (nI 0), upd fr k (nI 0), k + 1) else (-2, fh, n, fb, fl, fg, fr, k)
def rn_tk (fh : Nat → Int32) (n : Nat) (fb fl fg fr : Nat → Int32) (k : Nat) : Int32 × rn_S := if rn_ff (rn_mt fh n fb fl) k 0 = -1 then ((rn_le fh n fb fl fg fr k).1, (rn_le fh n fb fl fg fr k).2.1, 0, (rn_le fh n fb fl fg fr k).2.2.2) else (rn_ff (rn_mt fh n fb fl) k 0, fh, 0, fb, fl, fg, fr, k)
def rn_gs (t : Int32 × rn_S) : Int32 × rn_S := if t.1 < 0 then t else ((if rn_gi t.2.2.2.2.2.1 t.1.toNatClampNeg = true then -1 else t.1), t.2.1, t.2.2.1, t.2.2.2.1, t.2.2.2.2.1, upd t.2.2.2.2.2.1 t.1.toNatClampNeg (t.2.2.2.2.2.1 t.1.toNatClampNeg + nI 1), t.2.2.2.2.2.2.1, t.2.2.2.2.2.2.2)
def rn_rs (t : Int32 × rn_S) : Int32 × rn_S := if t.1 < 0 then t else (t.1, t.2.1, t.2.2.1, t.2.2.2.1, t.2.2.2.2.1, t.2.2.2.2.2.1, upd t.2.2.2.2.2.2.1 t.1.toNatClampNeg (t.2.2.2.2.2.2.1 t.1.toNatClampNeg + nI 1), t.2.2.2.2.2.2.2)
def rn_gv (fh : Nat → Int32) (n : Nat) (fb fl fg fr : Nat → Int32) (k : Nat) : Int32 × rn_S := if n = 0 then (-3, fh, n, fb, fl, fg, fr, k) else rn_gs (rn_tk fh n fb fl fg fr k)
def rn_rf (fh : Nat → Int32) (n : Nat) (fb fl fg fr : Nat → Int32) (k : Nat) : Int32 × rn_S := if n = 0 then (-3, fh, n, fb, fl, fg, fr, k) else rn_rs (rn_tk fh n fb fl fg fr k)
def rn_pt (v : Int64) (c : Int32) (fh : Nat → Int32) (n : Nat) (fb fl fg fr : Nat → Int32) (k : Nat) : Int32 × rn_S := if c < nI 1 ∨ nI 8 < c ∨ nI (60 - n) < c then (nI 0, fh, n, fb, fl, fg, fr, k) else (nI 1, rn_pu v c.toNatClampNeg n fh, n + c.toNatClampNeg, fb, fl, fg, fr, k)
def rn_cl (fh : Nat → Int32) (fb fl fg fr : Nat → Int32) (k : Nat) : Int32 × rn_S := (nI k, fh, 0, fb, fl, fg, fr, 0)
section WR
variable {fh fb fl fg fr : Nat → Int32} {n k j : Nat}
theorem rn_le_t (h : k < 200) : rn_le fh n fb fl fg fr k = (nI k, fh, n, va_cpy fh fb 0 (k * 60) n, upd fl k (nI n), upd fg k (nI 0), upd fr k (nI 0), k + 1) := if_pos h
theorem rn_le_f (h : ¬ k < 200) : rn_le fh n fb fl fg fr k = (-2, fh, n, fb, fl, fg, fr, k) := if_neg h
theorem rn_tk_c (hk : k ≤ 200) : (∃ j : Nat, j < k ∧ rn_ff (rn_mt fh n fb fl) k 0 = nI j ∧ rn_tk fh n fb fl fg fr k = (nI j, fh, 0, fb, fl, fg, fr, k)) ∨ (rn_ff (rn_mt fh n fb fl) k 0 = -1 ∧ k < 200 ∧ rn_tk fh n fb fl fg fr k = (nI k, fh, 0, va_cpy fh fb 0 (k * 60) n, upd fl k (nI n), upd fg k (nI 0), upd fr k (nI 0), k + 1)) ∨ (rn_ff (rn_mt fh n fb fl) k 0 = -1 ∧ ¬ k < 200 ∧ rn_tk fh n fb fl fg fr k = (-2, fh, 0, fb, fl, fg, fr, k)) := by
  rcases rn_ff_or (rn_mt fh n fb fl) k 0 with ⟨a1, -⟩ | ⟨x, -, b2, -, b4, -⟩
  · refine Or.inr ?_
    by_cases h : k < 200
    · refine Or.inl ⟨a1, h, ?_⟩
      unfold rn_tk; rw [if_pos a1, rn_le_t h]
    · refine Or.inr ⟨a1, h, ?_⟩
      unfold rn_tk; rw [if_pos a1, rn_le_f h]
  · refine Or.inl ⟨x, by omega, b4, ?_⟩
    unfold rn_tk
    rw [b4, if_neg ?_]
    intro q
    have q2 := nI_pos (n := x) (by omega)
    rw [q] at q2
    exact q2 (by decide)
theorem rn_gs_n : rn_gs (-2, fh, n, fb, fl, fg, fr, k) = (-2, fh, n, fb, fl, fg, fr, k) := if_pos (by show (-2 : Int32) < 0; decide)
theorem rn_rs_n : rn_rs (-2, fh, n, fb, fl, fg, fr, k) = (-2, fh, n, fb, fl, fg, fr, k) := if_pos (by show (-2 : Int32) < 0; decide)
theorem rn_gs_j (h : j < 2 ^ 31) : rn_gs (nI j, fh, n, fb, fl, fg, fr, k) = ((if rn_gi fg j = true then -1 else nI j), fh, n, fb, fl, upd fg j (fg j + nI 1), fr, k) := by
  unfold rn_gs
  rw [if_neg (nI_pos h)]
  simp only [nI_clamp h]
theorem rn_rs_j (h : j < 2 ^ 31) : rn_rs (nI j, fh, n, fb, fl, fg, fr, k) = (nI j, fh, n, fb, fl, fg, upd fr j (fr j + nI 1), k) := by
  unfold rn_rs
  rw [if_neg (nI_pos h)]
  simp only [nI_clamp h]
theorem rn_pt_f {v : Int64} {c : Int32} (h : c < nI 1 ∨ nI 8 < c ∨ nI (60 - n) < c) : rn_pt v c fh n fb fl fg fr k = (nI 0, fh, n, fb, fl, fg, fr, k) := if_pos h
theorem rn_pt_t {v : Int64} {c : Nat} (h1 : 1 ≤ c) (h8 : c ≤ 8) (h : c ≤ 60 - n) : rn_pt v (nI c) fh n fb fl fg fr k = (nI 1, rn_pu v c n fh, n + c, fb, fl, fg, fr, k) := by
  unfold rn_pt
  rw [if_neg ?_, nI_clamp (by omega)]
  rw [nI_ltI (by omega) (by omega), nI_ltI (by omega) (by omega), nI_ltI (by omega) (by omega)]
  omega
theorem rn_pt_nar {v : Int64} {c : Int32} : narrow .boolean (.int (rn_pt v c fh n fb fl fg fr k).1) = .int (rn_pt v c fh n fb fl fg fr k).1 := by
  unfold rn_pt
  split
  · exact congrArg Value.int (show nI 0 &&& 1 = nI 0 by decide)
  · exact congrArg Value.int (show nI 1 &&& 1 = nI 1 by decide)
end WR
theorem rn_bo_f {fb fl : Nat → Int32} {k : Nat} {x i : Int32} (h : ¬ (rn_kn x k = true ∧ ¬ i < 0 ∧ i < fl x.toNatClampNeg)) : rn_bo fb fl k x i = -1 := if_neg h
theorem rn_bo_t {fb fl : Nat → Int32} {k j z : Nat} (hj : j < k) (hk : k < 2 ^ 31) (hz : z < 2 ^ 31) (h : nI z < fl j) : rn_bo fb fl k (nI j) (nI z) = fb (j * 60 + z) &&& nI 255 := by
  unfold rn_bo
  rw [nI_clamp (show j < 2 ^ 31 by omega), nI_clamp hz, if_pos ⟨rn_kn_of hj hk, nI_pos hz, h⟩]
theorem rn_i8 (x : Int32) : x.toInt8.toInt32.toInt8.toInt32 = x.toInt8.toInt32 := by
  have h := pk_vb x
  rw [vp_nar_byte] at h
  exact h
theorem rn_by_b (v : Int64) (f : Nat) : (rn_by v f).toInt8.toInt32 = rn_by v f := rn_i8 _
theorem rn_m1 {n : Nat} (h : n < 2 ^ 31) : ¬ nI n = -1 := by
  intro q
  have q2 := nI_pos h
  rw [q] at q2
  exact q2 (by decide)
theorem rn_c {c : Int32} {n : Nat} (h0 : ¬ c < nI 1) (h1 : ¬ nI 8 < c) (h2 : c ≤ nI (60 - n)) : ∃ j : Nat, 1 ≤ j ∧ j ≤ 8 ∧ j ≤ 60 - n ∧ c = nI j := by
  rw [Int32.lt_iff_toInt_lt, nI_toInt (by decide)] at h0 h1
  rcases pk_ix c (n := 9) (by decide) with q | q | ⟨j, hj, rfl⟩
  · rw [Int32.lt_iff_toInt_lt, Int32.toInt_zero] at q
    omega
  · rw [Int32.le_iff_toInt_le, nI_toInt (by decide)] at q
    omega
  · rw [nI_toInt (by omega)] at h0 h1
    rw [nI_leI (by omega) (by omega)] at h2
    exact ⟨j, by omega, by omega, h2, rfl⟩
theorem rn_p1 {c : Nat} (h : 1 ≤ c) : nI c - nI 1 = nI c + (-1) := by
  obtain ⟨d, rfl⟩ : ∃ d, c = d + 1 := ⟨c - 1, by omega⟩
  rw [pk_m1]
  exact nI_pred d
section GV
variable {fh fb fl fg fr : Nat → Int32} {n k : Nat}
theorem rn_gv_0 (h : n = 0) : rn_gv fh n fb fl fg fr k = (-3, fh, n, fb, fl, fg, fr, k) := if_pos h
theorem rn_gv_p (h : ¬ n = 0) : rn_gv fh n fb fl fg fr k = rn_gs (rn_tk fh n fb fl fg fr k) := if_neg h
theorem rn_rf_0 (h : n = 0) : rn_rf fh n fb fl fg fr k = (-3, fh, n, fb, fl, fg, fr, k) := if_pos h
theorem rn_rf_p (h : ¬ n = 0) : rn_rf fh n fb fl fg fr k = rn_rs (rn_tk fh n fb fl fg fr k) := if_neg h
end GV
end
section
/-! The class's cells: the object, then its rows. -/
abbrev wX (h : Nat) (q : Nat → Nat) (cs : Nat → ClassId) (fh : Nat → Int32) (n : Nat) (fb fl fg fr : Nat → Int32) (k : Nat) : va_W := [(h, .inr (0, [.ref (q 1), .int (nI n), .ref (q 2), .ref (q 3), .ref (q 4), .ref (q 5), .int (nI k)])), (q 1, .inl (cs 1, 60, .inl fh)), (q 2, .inl (cs 2, 12000, .inl fb)), (q 3, .inl (cs 3, 200, .inl fl)), (q 4, .inl (cs 4, 200, .inl fg)), (q 5, .inl (cs 5, 200, .inl fr))]
abbrev tX (cs : Nat → ClassId) : List (ClassId × FieldType) := [(cs 1, .byte), (cs 2, .byte), (cs 3, .int), (cs 4, .int), (cs 5, .int)]
abbrev wS (h : Nat) (q : Nat → Nat) (cs : Nat → ClassId) (u : rn_S) : va_W := wX h q cs u.1 u.2.1 u.2.2.1 u.2.2.2.1 u.2.2.2.2.1 u.2.2.2.2.2.1 u.2.2.2.2.2.2
/-- the lowest eight bits of each: what the reference holds where the class holds a byte -/
def rn_k (f : Nat → Int32) : Nat → Int32 := fun i => f i &&& nI 255
abbrev wM (h : Nat) (q : Nat → Nat) (cs : Nat → ClassId) (fh : Nat → Int32) (n : Nat) (fb fl fg fr : Nat → Int32) (k : Nat) : va_W := [(h, .inr (1, [.ref (q 1), .int (nI n), .ref (q 2), .ref (q 3), .ref (q 4), .ref (q 5), .int (nI k)])), (q 1, .inl (cs 1, 60, .inl (rn_k fh))), (q 2, .inl (cs 2, 12000, .inl (rn_k fb))), (q 3, .inl (cs 3, 200, .inl fl)), (q 4, .inl (cs 4, 200, .inl fg)), (q 5, .inl (cs 5, 200, .inl fr))]
abbrev tM (cs : Nat → ClassId) : List (ClassId × FieldType) := [(cs 1, .int), (cs 2, .int), (cs 3, .int), (cs 4, .int), (cs 5, .int)]
abbrev wN (h : Nat) (q : Nat → Nat) (cs : Nat → ClassId) (u : rn_S) : va_W := wM h q cs u.1 u.2.1 u.2.2.1 u.2.2.2.1 u.2.2.2.2.1 u.2.2.2.2.2.1 u.2.2.2.2.2.2
end
section
abbrev rmX0_isKnown : Room := { frames := 0, cells := 0, slots := 0, locals := 0 }
set_option maxHeartbeats 4000000 in
set_option maxRecDepth 100000 in
theorem kX0_isKnown (l : Launch) (D : va_G) (h : Nat) (q : Nat → Nat) (cs : Nat → ClassId) (fh : Nat → Int32) (n : Nat) (fb fl fg fr : Nat → Int32) (k : Nat) (hn : n ≤ 60) (hk : k ≤ 200) (x : Int32) : Met l yX0_isKnown wsX0_isKnown rmX0_isKnown (rd_P D vwCl (tX cs) [.ref h, .int x] (wX h q cs fh n fb fl fg fr k)) (QcRead (rn_b (rn_kn x k))) 0 0 (fun _ => False) := by
  refine rd_of (cc := cX0_isKnown) (maxL := 2) (ty := .boolean) (by decide) rfl (rn_b_nar _) (Nat.le_of_ble_eq_true rfl) ?_
  intro p e s m args below meth c ls Q hx hb hml hown hts hK hP hl hret
  have hown : s.vm.findClass RX0 = some m.cls := hown
  have hin : ∀ w ∈ wsX00, w ∈ wsX0_isKnown := by decide +kernel
  have hl : lv_has ls 2 [(0, .ref h), (1, .int x)] := hl
  refine lv_iload_n hx hb dX0_isKnown_0 rfl (lv_at hl 1 rfl) ?_
  refine lv_if_lt (tgt := 16) hx hb dX0_isKnown_1 (by decide) (fun c0 => ?_) (fun c0 => ?_)
  · refine lv_iconst (v := nI 0) hx hb dX0_isKnown_16 (by decide) ?_
    exact rb_top (rn_b0 (rn_kn_f1 c0)) (hret _ _ dX0_isKnown_17)
  · refine lv_iload_n hx hb dX0_isKnown_4 rfl (lv_at hl 1 rfl) ?_
    refine lv_aload_n hx hb dX0_isKnown_5 rfl (lv_at hl 0 rfl) ?_
    refine va_get (D := D) (ci := 0) (v := .int (nI k)) (C := RX0) (T := TX0) (N := 7) hx hb hts hin hown hK hP 0 rfl rfl 6 (by decide) (hts (.fieldLink RX0 30 "ReferredNames" "known" "I") (by decide +kernel)) (fun _ h9 => h9) rfl dX0_isKnown_6 ?_
    refine lv_icmp_ge (tgt := 16) hx hb dX0_isKnown_9 (by decide) (fun c1 => ?_) (fun c1 => ?_)
    · refine lv_iconst (v := nI 0) hx hb dX0_isKnown_16 (by decide) ?_
      exact rb_top (rn_b0 (rn_kn_f2 c1)) (hret _ _ dX0_isKnown_17)
    · refine lv_iconst (v := nI 1) hx hb dX0_isKnown_12 (by decide) ?_
      refine lv_goto (tgt := 17) hx hb dX0_isKnown_13 (by decide) ?_
      exact rb_top (rn_b1 (rn_kn_tt c0 c1)) (hret _ _ dX0_isKnown_17)
abbrev rmX0_isGiven : Room := { frames := 0, cells := 0, slots := 0, locals := 0 }
set_option maxHeartbeats 4000000 in
set_option maxRecDepth 100000 in
theorem kX0_isGiven (l : Launch) (D : va_G) (h : Nat) (q : Nat → Nat) (cs : Nat → ClassId) (fh : Nat → Int32) (n : Nat) (fb fl fg fr : Nat → Int32) (k : Nat) (hn : n ≤ 60) (hk : k ≤ 200) (j : Nat) (hj : j < k) : Met l yX0_isGiven wsX0_isGiven rmX0_isGiven (rd_P D vwCl (tX cs) [.ref h, .int (nI j)] (wX h q cs fh n fb fl fg fr k)) (QcRead (rn_b (rn_gi fg j))) 0 0 (fun _ => False) := by
  refine rd_of (cc := cX0_isGiven) (maxL := 2) (ty := .boolean) (by decide) rfl (rn_b_nar _) (Nat.le_of_ble_eq_true rfl) ?_
  intro p e s m args below meth c ls Q hx hb hml hown hts hK hP hl hret
  have hown : s.vm.findClass RX0 = some m.cls := hown
  have hin : ∀ w ∈ wsX00, w ∈ wsX0_isGiven := by decide +kernel
  have hl : lv_has ls 2 [(0, .ref h), (1, .int (nI j))] := hl
  refine lv_aload_n hx hb dX0_isGiven_0 rfl (lv_at hl 0 rfl) ?_
  refine va_get (D := D) (ci := 0) (v := .ref (q 4)) (C := RX0) (T := TX0) (N := 7) hx hb hts hin hown hK hP 0 rfl rfl 4 (by decide) (hts (.fieldLink RX0 24 "ReferredNames" "givings" "[I") (by decide +kernel)) (fun _ h9 => h9) rfl dX0_isGiven_1 ?_
  refine lv_iload_n hx hb dX0_isGiven_4 rfl (lv_at hl 1 rfl) ?_
  refine rb_ild hx hb hK hP 4 3 rfl rfl (i := j) (by omega) (by decide) dX0_isGiven_5 ?_
  refine lv_if_eq (tgt := 13) hx hb dX0_isGiven_6 (by decide) (fun c0 => ?_) (fun c0 => ?_)
  · refine lv_iconst (v := nI 0) hx hb dX0_isGiven_13 (by decide) ?_
    exact rb_top (rn_b0 (decide_eq_false (fun q9 => q9 c0))) (hret _ _ dX0_isGiven_14)
  · refine lv_iconst (v := nI 1) hx hb dX0_isGiven_9 (by decide) ?_
    refine lv_goto (tgt := 14) hx hb dX0_isGiven_10 (by decide) ?_
    exact rb_top (rn_b1 (decide_eq_true c0)) (hret _ _ dX0_isGiven_14)
abbrev rmX0_isMissing : Room := { frames := 1, cells := 0, slots := 0, locals := 21 }
set_option maxHeartbeats 4000000 in
set_option maxRecDepth 100000 in
theorem kX0_isMissing (l : Launch) (D : va_G) (h : Nat) (q : Nat → Nat) (cs : Nat → ClassId) (fh : Nat → Int32) (n : Nat) (fb fl fg fr : Nat → Int32) (k : Nat) (hn : n ≤ 60) (hk : k ≤ 200) (j : Nat) (hj : j < k) : Met l yX0_isMissing wsX0_isMissing rmX0_isMissing (rd_P D vwCl (tX cs) [.ref h, .int (nI j)] (wX h q cs fh n fb fl fg fr k)) (QcRead (rn_b (rn_mi fg fr j))) 0 0 (fun _ => False) := by
  refine rd_of (cc := cX0_isMissing) (maxL := 2) (ty := .boolean) (by decide) rfl (rn_b_nar _) (Nat.le_of_ble_eq_true rfl) ?_
  intro p e s m args below meth c ls Q hx hb hml hown hts hK hP hl hret
  have hown : s.vm.findClass RX0 = some m.cls := hown
  have hin : ∀ w ∈ wsX00, w ∈ wsX0_isMissing := by decide +kernel
  have hl : lv_has ls 2 [(0, .ref h), (1, .int (nI j))] := hl
  refine lv_aload_n hx hb dX0_isMissing_0 rfl (lv_at hl 0 rfl) ?_
  refine va_get (D := D) (ci := 0) (v := .ref (q 5)) (C := RX0) (T := TX0) (N := 7) hx hb hts hin hown hK hP 0 rfl rfl 5 (by decide) (hts (.fieldLink RX0 27 "ReferredNames" "referrals" "[I") (by decide +kernel)) (fun _ h9 => h9) rfl dX0_isMissing_1 ?_
  refine lv_iload_n hx hb dX0_isMissing_4 rfl (lv_at hl 1 rfl) ?_
  refine rb_ild hx hb hK hP 5 4 rfl rfl (i := j) (by omega) (by decide) dX0_isMissing_5 ?_
  refine lv_if_eq (tgt := 21) hx hb dX0_isMissing_6 (by decide) (fun c0 => ?_) (fun c0 => ?_)
  · refine lv_iconst (v := nI 0) hx hb dX0_isMissing_21 (by decide) ?_
    exact rb_top (rn_b0 (decide_eq_false (fun q9 => q9.1 c0))) (hret _ _ dX0_isMissing_22)
  · refine lv_aload_n hx hb dX0_isMissing_9 rfl (lv_at hl 0 rfl) ?_
    refine lv_iload_n hx hb dX0_isMissing_10 rfl (lv_at hl 1 rfl) ?_
    refine rd_call (ci := 0) (b := h) (As := [.int (nI j)]) (rest := []) ⟨hx, hb, hml, hown, hts⟩ (kX0_isGiven l D h q cs fh n fb fl fg fr k (by omega) (by omega) j hj) (cwV 1 hts gX0_isMissing_X0_isGiven rfl rfl rfl (by decide +kernel) ⟨Nat.le_of_ble_eq_true rfl, Nat.le_of_ble_eq_true rfl⟩) hK hP rfl rfl rfl rfl hl.1 rfl (Nat.le_of_ble_eq_true rfl) dX0_isMissing_11 ⟨Nat.zero_le _, Nat.zero_le _⟩ ?_
    refine lv_if_ne (tgt := 21) hx hb dX0_isMissing_14 (by decide) (fun c1 => ?_) (fun c1 => ?_)
    · refine lv_iconst (v := nI 0) hx hb dX0_isMissing_21 (by decide) ?_
      exact rb_top (rn_b0 (decide_eq_false (fun q9 => of_decide_eq_true (rn_b_ne c1) q9.2))) (hret _ _ dX0_isMissing_22)
    · refine lv_iconst (v := nI 1) hx hb dX0_isMissing_17 (by decide) ?_
      refine lv_goto (tgt := 22) hx hb dX0_isMissing_18 (by decide) ?_
      exact rb_top (rn_b1 (decide_eq_true ⟨c0, Decidable.not_not.mp (of_decide_eq_false (rn_b_eq c1))⟩)) (hret _ _ dX0_isMissing_22)
abbrev rmX0_isInHand : Room := { frames := 0, cells := 0, slots := 0, locals := 0 }
set_option maxHeartbeats 4000000 in
set_option maxRecDepth 100000 in
theorem kX0_isInHand (l : Launch) (D : va_G) (h : Nat) (q : Nat → Nat) (cs : Nat → ClassId) (fh : Nat → Int32) (n : Nat) (fb fl fg fr : Nat → Int32) (k : Nat) (hn : n ≤ 60) (hk : k ≤ 200) (j : Nat) (hj : j < k) : Met l yX0_isInHand wsX0_isInHand rmX0_isInHand (rd_P D vwCl (tX cs) [.ref h, .int (nI j)] (wX h q cs fh n fb fl fg fr k)) (QcRead (rn_b (rn_mt fh n fb fl j))) 0 0 (fun _ => False) := by
  refine rd_of (cc := cX0_isInHand) (maxL := 3) (ty := .boolean) (by decide) rfl (rn_b_nar _) (Nat.le_of_ble_eq_true rfl) ?_
  intro p e s m args below meth c ls Q hx hb hml hown hts hK hP hl hret
  have hown : s.vm.findClass RX0 = some m.cls := hown
  have hin : ∀ w ∈ wsX00, w ∈ wsX0_isInHand := by decide +kernel
  have hl : lv_has ls 3 [(0, .ref h), (1, .int (nI j))] := hl
  have loop : ∀ (f : Nat) (i : Nat) (ls : Array Slot), i + f = n → fl j = nI n → (∀ x, x < i → fb (j * 60 + x) = fh x) → lv_has ls 3 [(0, .ref h), (1, .int (nI j)), (2, .int (nI i))] → W p l e rmX0_isInHand s m args below meth c s.heap [] 0 0 Q (F0 m 17 ls []) := by
    intro f
    induction f with
    | zero =>
      intro i ls hi hc hq hl
      refine lv_iload_n hx hb dX0_isInHand_17 rfl (lv_at hl 2 rfl) ?_
      refine lv_aload_n hx hb dX0_isInHand_18 rfl (lv_at hl 0 rfl) ?_
      refine va_get (D := D) (ci := 0) (v := .int (nI n)) (C := RX0) (T := TX0) (N := 7) hx hb hts hin hown hK hP 0 rfl rfl 1 (by decide) (hts (.fieldLink RX0 13 "ReferredNames" "handLength" "I") (by decide +kernel)) (fun _ h9 => h9) rfl dX0_isInHand_19 ?_
      refine lv_icmp_ge (tgt := 53) hx hb dX0_isInHand_22 (by decide) (fun c1 => ?_) (fun c1 => ?_)
      · rw [nI_leI (by omega) (by omega)] at c1
        refine lv_iconst (v := nI 1) hx hb dX0_isInHand_53 (by decide) ?_
        exact rb_top (rn_b1 (decide_eq_true ⟨hc, fun x hx => hq x (by omega)⟩)) (hret _ _ dX0_isInHand_54)
      · rw [nI_leI (by omega) (by omega)] at c1
        exfalso; omega
    | succ f ih =>
      intro i ls hi hc hq hl
      refine lv_iload_n hx hb dX0_isInHand_17 rfl (lv_at hl 2 rfl) ?_
      refine lv_aload_n hx hb dX0_isInHand_18 rfl (lv_at hl 0 rfl) ?_
      refine va_get (D := D) (ci := 0) (v := .int (nI n)) (C := RX0) (T := TX0) (N := 7) hx hb hts hin hown hK hP 0 rfl rfl 1 (by decide) (hts (.fieldLink RX0 13 "ReferredNames" "handLength" "I") (by decide +kernel)) (fun _ h9 => h9) rfl dX0_isInHand_19 ?_
      refine lv_icmp_ge (tgt := 53) hx hb dX0_isInHand_22 (by decide) (fun c1 => ?_) (fun c1 => ?_)
      · rw [nI_leI (by omega) (by omega)] at c1
        exfalso; omega
      · rw [nI_leI (by omega) (by omega)] at c1
        refine lv_aload_n hx hb dX0_isInHand_25 rfl (lv_at hl 0 rfl) ?_
        refine va_get (D := D) (ci := 0) (v := .ref (q 2)) (C := RX0) (T := TX0) (N := 7) hx hb hts hin hown hK hP 0 rfl rfl 2 (by decide) (hts (.fieldLink RX0 17 "ReferredNames" "bytes" "[B") (by decide +kernel)) (fun _ h9 => h9) rfl dX0_isInHand_26 ?_
        refine lv_iload_n hx hb dX0_isInHand_29 rfl (lv_at hl 1 rfl) ?_
        refine lv_bipush (v := nI 60) hx hb dX0_isInHand_30 (by decide) ?_
        refine lv_imul hx hb dX0_isInHand_32 ?_
        refine rb_top (y := nI (j * 60)) (pk_mul j 60) ?_
        refine lv_iload_n hx hb dX0_isInHand_33 rfl (lv_at hl 2 rfl) ?_
        refine lv_iadd hx hb dX0_isInHand_34 ?_
        refine rb_top (y := nI ((j * 60) + i)) (nI_add (j * 60) i) ?_
        refine rb_bld hx hb hK hP 2 1 rfl rfl (i := (j * 60) + i) (by omega) (by decide) dX0_isInHand_35 ?_
        refine lv_aload_n hx hb dX0_isInHand_36 rfl (lv_at hl 0 rfl) ?_
        refine va_get (D := D) (ci := 0) (v := .ref (q 1)) (C := RX0) (T := TX0) (N := 7) hx hb hts hin hown hK hP 0 rfl rfl 0 (by decide) (hts (.fieldLink RX0 9 "ReferredNames" "hand" "[B") (by decide +kernel)) (fun _ h9 => h9) rfl dX0_isInHand_37 ?_
        refine lv_iload_n hx hb dX0_isInHand_40 rfl (lv_at hl 2 rfl) ?_
        refine rb_bld hx hb hK hP 1 0 rfl rfl (i := i) (by omega) (by decide) dX0_isInHand_41 ?_
        refine lv_icmp_eq (tgt := 47) hx hb dX0_isInHand_42 (by decide) (fun c2 => ?_) (fun c2 => ?_)
        · refine lv_iinc (v := nI (i + 1)) (lv' := [(2, .int (nI (i + 1))), (0, .ref h), (1, .int (nI j))]) hx hb dX0_isInHand_47 hl (k := 2) rfl (nI_1 i) (by decide) rfl (fun ls hl => ?_)
          refine lv_goto (tgt := 17) hx hb dX0_isInHand_50 (by decide) ?_
          exact ih (i + 1) ls (by omega) hc (lt_s hq c2) (lv_sub hl [1, 2, 0] rfl)
        · refine lv_iconst (v := nI 0) hx hb dX0_isInHand_45 (by decide) ?_
          exact rb_top (rn_b0 (decide_eq_false (fun q9 => c2 (q9.2 i (by omega))))) (hret _ _ dX0_isInHand_46)
  refine lv_aload_n hx hb dX0_isInHand_0 rfl (lv_at hl 0 rfl) ?_
  refine va_get (D := D) (ci := 0) (v := .ref (q 3)) (C := RX0) (T := TX0) (N := 7) hx hb hts hin hown hK hP 0 rfl rfl 3 (by decide) (hts (.fieldLink RX0 20 "ReferredNames" "lengths" "[I") (by decide +kernel)) (fun _ h9 => h9) rfl dX0_isInHand_1 ?_
  refine lv_iload_n hx hb dX0_isInHand_4 rfl (lv_at hl 1 rfl) ?_
  refine rb_ild hx hb hK hP 3 2 rfl rfl (i := j) (by omega) (by decide) dX0_isInHand_5 ?_
  refine lv_aload_n hx hb dX0_isInHand_6 rfl (lv_at hl 0 rfl) ?_
  refine va_get (D := D) (ci := 0) (v := .int (nI n)) (C := RX0) (T := TX0) (N := 7) hx hb hts hin hown hK hP 0 rfl rfl 1 (by decide) (hts (.fieldLink RX0 13 "ReferredNames" "handLength" "I") (by decide +kernel)) (fun _ h9 => h9) rfl dX0_isInHand_7 ?_
  refine lv_icmp_eq (tgt := 15) hx hb dX0_isInHand_10 (by decide) (fun c0 => ?_) (fun c0 => ?_)
  · refine lv_iconst (v := nI 0) hx hb dX0_isInHand_15 (by decide) ?_
    refine lv_istore_n (lv' := [(2, .int (nI 0)), (0, .ref h), (1, .int (nI j))]) hx hb dX0_isInHand_16 rfl hl (by decide) rfl (fun ls hl => ?_)
    exact loop n 0 ls (by omega) c0 lt_0 (lv_sub hl [1, 2, 0] rfl)
  · refine lv_iconst (v := nI 0) hx hb dX0_isInHand_13 (by decide) ?_
    exact rb_top (rn_b0 (decide_eq_false (fun q9 => c0 q9.1))) (hret _ _ dX0_isInHand_14)
abbrev rmX0_find : Room := { frames := 1, cells := 0, slots := 0, locals := 22 }
set_option maxHeartbeats 4000000 in
set_option maxRecDepth 100000 in
theorem kX0_find (l : Launch) (D : va_G) (h : Nat) (q : Nat → Nat) (cs : Nat → ClassId) (fh : Nat → Int32) (n : Nat) (fb fl fg fr : Nat → Int32) (k : Nat) (hn : n ≤ 60) (hk : k ≤ 200) : Met l yX0_find wsX0_find rmX0_find (rd_P D vwCl (tX cs) [.ref h] (wX h q cs fh n fb fl fg fr k)) (QcRead (rn_ff (rn_mt fh n fb fl) k 0)) 0 0 (fun _ => False) := by
  refine rd_of (cc := cX0_find) (maxL := 2) (ty := .int) (by decide) rfl rfl (Nat.le_of_ble_eq_true rfl) ?_
  intro p e s m args below meth c ls Q hx hb hml hown hts hK hP hl hret
  have hown : s.vm.findClass RX0 = some m.cls := hown
  have hin : ∀ w ∈ wsX00, w ∈ wsX0_find := by decide +kernel
  have hl : lv_has ls 2 [(0, .ref h)] := hl
  have loop : ∀ (f : Nat) (j : Nat) (ls : Array Slot), j + f = k → rn_ff (rn_mt fh n fb fl) k 0 = rn_ff (rn_mt fh n fb fl) f j → lv_has ls 2 [(0, .ref h), (1, .int (nI j))] → W p l e rmX0_find s m args below meth c s.heap [] 0 0 Q (F0 m 2 ls []) := by
    intro f
    induction f with
    | zero =>
      intro j ls hj hr hl
      refine lv_iload_n hx hb dX0_find_2 rfl (lv_at hl 1 rfl) ?_
      refine lv_aload_n hx hb dX0_find_3 rfl (lv_at hl 0 rfl) ?_
      refine va_get (D := D) (ci := 0) (v := .int (nI k)) (C := RX0) (T := TX0) (N := 7) hx hb hts hin hown hK hP 0 rfl rfl 6 (by decide) (hts (.fieldLink RX0 30 "ReferredNames" "known" "I") (by decide +kernel)) (fun _ h9 => h9) rfl dX0_find_4 ?_
      refine lv_icmp_ge (tgt := 26) hx hb dX0_find_7 (by decide) (fun c0 => ?_) (fun c0 => ?_)
      · rw [nI_leI (by omega) (by omega)] at c0
        refine lv_iconst (v := (-1)) hx hb dX0_find_26 (by decide) ?_
        exact rb_top (by rw [hr]; rfl) (hret _ _ dX0_find_27)
      · rw [nI_leI (by omega) (by omega)] at c0
        exfalso; omega
    | succ f ih =>
      intro j ls hj hr hl
      refine lv_iload_n hx hb dX0_find_2 rfl (lv_at hl 1 rfl) ?_
      refine lv_aload_n hx hb dX0_find_3 rfl (lv_at hl 0 rfl) ?_
      refine va_get (D := D) (ci := 0) (v := .int (nI k)) (C := RX0) (T := TX0) (N := 7) hx hb hts hin hown hK hP 0 rfl rfl 6 (by decide) (hts (.fieldLink RX0 30 "ReferredNames" "known" "I") (by decide +kernel)) (fun _ h9 => h9) rfl dX0_find_4 ?_
      refine lv_icmp_ge (tgt := 26) hx hb dX0_find_7 (by decide) (fun c0 => ?_) (fun c0 => ?_)
      · rw [nI_leI (by omega) (by omega)] at c0
        exfalso; omega
      · rw [nI_leI (by omega) (by omega)] at c0
        refine lv_aload_n hx hb dX0_find_10 rfl (lv_at hl 0 rfl) ?_
        refine lv_iload_n hx hb dX0_find_11 rfl (lv_at hl 1 rfl) ?_
        refine rd_call (ci := 0) (b := h) (As := [.int (nI j)]) (rest := []) ⟨hx, hb, hml, hown, hts⟩ (kX0_isInHand l D h q cs fh n fb fl fg fr k (by omega) (by omega) j (by omega)) (cwV 1 hts gX0_find_X0_isInHand rfl rfl rfl (by decide +kernel) ⟨Nat.le_of_ble_eq_true rfl, Nat.le_of_ble_eq_true rfl⟩) hK hP rfl rfl rfl rfl hl.1 rfl (Nat.le_of_ble_eq_true rfl) dX0_find_12 ⟨Nat.zero_le _, Nat.zero_le _⟩ ?_
        refine lv_if_eq (tgt := 20) hx hb dX0_find_15 (by decide) (fun c1 => ?_) (fun c1 => ?_)
        · refine lv_iinc (v := nI (j + 1)) (lv' := [(1, .int (nI (j + 1))), (0, .ref h)]) hx hb dX0_find_20 hl (k := 1) rfl (nI_1 j) (by decide) rfl (fun ls hl => ?_)
          refine lv_goto (tgt := 2) hx hb dX0_find_23 (by decide) ?_
          exact ih (j + 1) ls (by omega) (hr.trans (rn_ff_f (rn_b_eq c1))) (lv_sub hl [1, 0] rfl)
        · refine lv_iload_n hx hb dX0_find_18 rfl (lv_at hl 1 rfl) ?_
          exact rb_top ((hr.trans (rn_ff_t (rn_b_ne c1))).symm) (hret _ _ dX0_find_19)
  refine lv_iconst (v := nI 0) hx hb dX0_find_0 (by decide) ?_
  refine lv_istore_n (lv' := [(1, .int (nI 0)), (0, .ref h)]) hx hb dX0_find_1 rfl hl (by decide) rfl (fun ls hl => ?_)
  exact loop k 0 ls (by omega) rfl (lv_sub hl [1, 0] rfl)
abbrev rmX0_firstMissingFrom : Room := { frames := 2, cells := 0, slots := 0, locals := 42 }
set_option maxHeartbeats 4000000 in
set_option maxRecDepth 100000 in
theorem kX0_firstMissingFrom (l : Launch) (D : va_G) (h : Nat) (q : Nat → Nat) (cs : Nat → ClassId) (fh : Nat → Int32) (n : Nat) (fb fl fg fr : Nat → Int32) (k : Nat) (hn : n ≤ 60) (hk : k ≤ 200) (a : Nat) (ha : a ≤ k) : Met l yX0_firstMissingFrom wsX0_firstMissingFrom rmX0_firstMissingFrom (rd_P D vwCl (tX cs) [.ref h, .int (nI a)] (wX h q cs fh n fb fl fg fr k)) (QcRead (rn_ff (rn_mi fg fr) (k - a) a)) 0 0 (fun _ => False) := by
  refine rd_of (cc := cX0_firstMissingFrom) (maxL := 3) (ty := .int) (by decide) rfl rfl (Nat.le_of_ble_eq_true rfl) ?_
  intro p e s m args below meth c ls Q hx hb hml hown hts hK hP hl hret
  have hown : s.vm.findClass RX0 = some m.cls := hown
  have hin : ∀ w ∈ wsX00, w ∈ wsX0_firstMissingFrom := by decide +kernel
  have hl : lv_has ls 3 [(0, .ref h), (1, .int (nI a))] := hl
  have loop : ∀ (f : Nat) (j : Nat) (ls : Array Slot), j + f = k → rn_ff (rn_mi fg fr) (k - a) a = rn_ff (rn_mi fg fr) f j → lv_has ls 3 [(0, .ref h), (2, .int (nI j))] → W p l e rmX0_firstMissingFrom s m args below meth c s.heap [] 0 0 Q (F0 m 2 ls []) := by
    intro f
    induction f with
    | zero =>
      intro j ls hj hr hl
      refine lv_iload_n hx hb dX0_firstMissingFrom_2 rfl (lv_at hl 1 rfl) ?_
      refine lv_aload_n hx hb dX0_firstMissingFrom_3 rfl (lv_at hl 0 rfl) ?_
      refine va_get (D := D) (ci := 0) (v := .int (nI k)) (C := RX0) (T := TX0) (N := 7) hx hb hts hin hown hK hP 0 rfl rfl 6 (by decide) (hts (.fieldLink RX0 30 "ReferredNames" "known" "I") (by decide +kernel)) (fun _ h9 => h9) rfl dX0_firstMissingFrom_4 ?_
      refine lv_icmp_ge (tgt := 26) hx hb dX0_firstMissingFrom_7 (by decide) (fun c0 => ?_) (fun c0 => ?_)
      · rw [nI_leI (by omega) (by omega)] at c0
        refine lv_iconst (v := (-1)) hx hb dX0_firstMissingFrom_26 (by decide) ?_
        exact rb_top (by rw [hr]; rfl) (hret _ _ dX0_firstMissingFrom_27)
      · rw [nI_leI (by omega) (by omega)] at c0
        exfalso; omega
    | succ f ih =>
      intro j ls hj hr hl
      refine lv_iload_n hx hb dX0_firstMissingFrom_2 rfl (lv_at hl 1 rfl) ?_
      refine lv_aload_n hx hb dX0_firstMissingFrom_3 rfl (lv_at hl 0 rfl) ?_
      refine va_get (D := D) (ci := 0) (v := .int (nI k)) (C := RX0) (T := TX0) (N := 7) hx hb hts hin hown hK hP 0 rfl rfl 6 (by decide) (hts (.fieldLink RX0 30 "ReferredNames" "known" "I") (by decide +kernel)) (fun _ h9 => h9) rfl dX0_firstMissingFrom_4 ?_
      refine lv_icmp_ge (tgt := 26) hx hb dX0_firstMissingFrom_7 (by decide) (fun c0 => ?_) (fun c0 => ?_)
      · rw [nI_leI (by omega) (by omega)] at c0
        exfalso; omega
      · rw [nI_leI (by omega) (by omega)] at c0
        refine lv_aload_n hx hb dX0_firstMissingFrom_10 rfl (lv_at hl 0 rfl) ?_
        refine lv_iload_n hx hb dX0_firstMissingFrom_11 rfl (lv_at hl 1 rfl) ?_
        refine rd_call (ci := 0) (b := h) (As := [.int (nI j)]) (rest := []) ⟨hx, hb, hml, hown, hts⟩ (kX0_isMissing l D h q cs fh n fb fl fg fr k (by omega) (by omega) j (by omega)) (cwV 1 hts gX0_firstMissingFrom_X0_isMissing rfl rfl rfl (by decide +kernel) ⟨Nat.le_of_ble_eq_true rfl, Nat.le_of_ble_eq_true rfl⟩) hK hP rfl rfl rfl rfl hl.1 rfl (Nat.le_of_ble_eq_true rfl) dX0_firstMissingFrom_12 ⟨Nat.zero_le _, Nat.zero_le _⟩ ?_
        refine lv_if_eq (tgt := 20) hx hb dX0_firstMissingFrom_15 (by decide) (fun c1 => ?_) (fun c1 => ?_)
        · refine lv_iinc (v := nI (j + 1)) (lv' := [(2, .int (nI (j + 1))), (0, .ref h)]) hx hb dX0_firstMissingFrom_20 hl (k := 1) rfl (nI_1 j) (by decide) rfl (fun ls hl => ?_)
          refine lv_goto (tgt := 2) hx hb dX0_firstMissingFrom_23 (by decide) ?_
          exact ih (j + 1) ls (by omega) (hr.trans (rn_ff_f (rn_b_eq c1))) (lv_sub hl [1, 0] rfl)
        · refine lv_iload_n hx hb dX0_firstMissingFrom_18 rfl (lv_at hl 1 rfl) ?_
          exact rb_top ((hr.trans (rn_ff_t (rn_b_ne c1))).symm) (hret _ _ dX0_firstMissingFrom_19)
  refine lv_iload_n hx hb dX0_firstMissingFrom_0 rfl (lv_at hl 1 rfl) ?_
  refine lv_istore_n (lv' := [(2, .int (nI a)), (0, .ref h), (1, .int (nI a))]) hx hb dX0_firstMissingFrom_1 rfl hl (by decide) rfl (fun ls hl => ?_)
  exact loop (k - a) a ls (by omega) rfl (lv_sub hl [1, 0] rfl)
abbrev rmX0_countGiven : Room := { frames := 1, cells := 0, slots := 0, locals := 21 }
set_option maxHeartbeats 4000000 in
set_option maxRecDepth 100000 in
theorem kX0_countGiven (l : Launch) (D : va_G) (h : Nat) (q : Nat → Nat) (cs : Nat → ClassId) (fh : Nat → Int32) (n : Nat) (fb fl fg fr : Nat → Int32) (k : Nat) (hn : n ≤ 60) (hk : k ≤ 200) : Met l yX0_countGiven wsX0_countGiven rmX0_countGiven (rd_P D vwCl (tX cs) [.ref h] (wX h q cs fh n fb fl fg fr k)) (QcRead (rn_fo (rn_g1 fg) k 0 0)) 0 0 (fun _ => False) := by
  refine rd_of (cc := cX0_countGiven) (maxL := 3) (ty := .int) (by decide) rfl rfl (Nat.le_of_ble_eq_true rfl) ?_
  intro p e s m args below meth c ls Q hx hb hml hown hts hK hP hl hret
  have hown : s.vm.findClass RX0 = some m.cls := hown
  have hin : ∀ w ∈ wsX00, w ∈ wsX0_countGiven := by decide +kernel
  have hl : lv_has ls 3 [(0, .ref h)] := hl
  have loop : ∀ (f : Nat) (j : Nat) (a : Int32) (ls : Array Slot), j + f = k → rn_fo (rn_g1 fg) k 0 0 = rn_fo (rn_g1 fg) f j a → lv_has ls 3 [(0, .ref h), (1, .int a), (2, .int (nI j))] → W p l e rmX0_countGiven s m args below meth c s.heap [] 0 0 Q (F0 m 4 ls []) := by
    intro f
    induction f with
    | zero =>
      intro j a ls hj hr hl
      refine lv_iload_n hx hb dX0_countGiven_4 rfl (lv_at hl 2 rfl) ?_
      refine lv_aload_n hx hb dX0_countGiven_5 rfl (lv_at hl 0 rfl) ?_
      refine va_get (D := D) (ci := 0) (v := .int (nI k)) (C := RX0) (T := TX0) (N := 7) hx hb hts hin hown hK hP 0 rfl rfl 6 (by decide) (hts (.fieldLink RX0 30 "ReferredNames" "known" "I") (by decide +kernel)) (fun _ h9 => h9) rfl dX0_countGiven_6 ?_
      refine lv_icmp_ge (tgt := 29) hx hb dX0_countGiven_9 (by decide) (fun c0 => ?_) (fun c0 => ?_)
      · rw [nI_leI (by omega) (by omega)] at c0
        refine lv_iload_n hx hb dX0_countGiven_29 rfl (lv_at hl 1 rfl) ?_
        exact rb_top (hr.symm) (hret _ _ dX0_countGiven_30)
      · rw [nI_leI (by omega) (by omega)] at c0
        exfalso; omega
    | succ f ih =>
      intro j a ls hj hr hl
      refine lv_iload_n hx hb dX0_countGiven_4 rfl (lv_at hl 2 rfl) ?_
      refine lv_aload_n hx hb dX0_countGiven_5 rfl (lv_at hl 0 rfl) ?_
      refine va_get (D := D) (ci := 0) (v := .int (nI k)) (C := RX0) (T := TX0) (N := 7) hx hb hts hin hown hK hP 0 rfl rfl 6 (by decide) (hts (.fieldLink RX0 30 "ReferredNames" "known" "I") (by decide +kernel)) (fun _ h9 => h9) rfl dX0_countGiven_6 ?_
      refine lv_icmp_ge (tgt := 29) hx hb dX0_countGiven_9 (by decide) (fun c0 => ?_) (fun c0 => ?_)
      · rw [nI_leI (by omega) (by omega)] at c0
        exfalso; omega
      · rw [nI_leI (by omega) (by omega)] at c0
        refine lv_aload_n hx hb dX0_countGiven_12 rfl (lv_at hl 0 rfl) ?_
        refine lv_iload_n hx hb dX0_countGiven_13 rfl (lv_at hl 2 rfl) ?_
        refine rd_call (ci := 0) (b := h) (As := [.int (nI j)]) (rest := []) ⟨hx, hb, hml, hown, hts⟩ (kX0_isGiven l D h q cs fh n fb fl fg fr k (by omega) (by omega) j (by omega)) (cwV 1 hts gX0_countGiven_X0_isGiven rfl rfl rfl (by decide +kernel) ⟨Nat.le_of_ble_eq_true rfl, Nat.le_of_ble_eq_true rfl⟩) hK hP rfl rfl rfl rfl hl.1 rfl (Nat.le_of_ble_eq_true rfl) dX0_countGiven_14 ⟨Nat.zero_le _, Nat.zero_le _⟩ ?_
        refine lv_if_eq (tgt := 23) hx hb dX0_countGiven_17 (by decide) (fun c1 => ?_) (fun c1 => ?_)
        · refine lv_iinc (v := nI (j + 1)) (lv' := [(2, .int (nI (j + 1))), (0, .ref h), (1, .int a)]) hx hb dX0_countGiven_23 hl (k := 2) rfl (nI_1 j) (by decide) rfl (fun ls hl => ?_)
          refine lv_goto (tgt := 4) hx hb dX0_countGiven_26 (by decide) ?_
          exact ih (j + 1) (a) ls (by omega) (hr.trans (rn_fo_s (rn_g1_f (rn_b_eq c1)))) (lv_sub hl [1, 2, 0] rfl)
        · refine lv_iinc (v := a + 1) (lv' := [(1, .int (a + 1)), (0, .ref h), (2, .int (nI j))]) hx hb dX0_countGiven_20 hl (k := 1) rfl rfl (by decide) rfl (fun ls hl => ?_)
          refine lv_iinc (v := nI (j + 1)) (lv' := [(2, .int (nI (j + 1))), (1, .int (a + 1)), (0, .ref h)]) hx hb dX0_countGiven_23 hl (k := 2) rfl (nI_1 j) (by decide) rfl (fun ls hl => ?_)
          refine lv_goto (tgt := 4) hx hb dX0_countGiven_26 (by decide) ?_
          exact ih (j + 1) (a + 1) ls (by omega) (hr.trans (rn_fo_s (rn_g1_t (rn_b_ne c1)))) (lv_sub hl [2, 1, 0] rfl)
  refine lv_iconst (v := nI 0) hx hb dX0_countGiven_0 (by decide) ?_
  refine lv_istore_n (lv' := [(1, .int (nI 0)), (0, .ref h)]) hx hb dX0_countGiven_1 rfl hl (by decide) rfl (fun ls hl => ?_)
  refine lv_iconst (v := nI 0) hx hb dX0_countGiven_2 (by decide) ?_
  refine lv_istore_n (lv' := [(2, .int (nI 0)), (1, .int (nI 0)), (0, .ref h)]) hx hb dX0_countGiven_3 rfl hl (by decide) rfl (fun ls hl => ?_)
  exact loop k 0 0 ls (by omega) rfl (lv_sub hl [2, 1, 0] rfl)
abbrev rmX0_countMissing : Room := { frames := 2, cells := 0, slots := 0, locals := 42 }
set_option maxHeartbeats 4000000 in
set_option maxRecDepth 100000 in
theorem kX0_countMissing (l : Launch) (D : va_G) (h : Nat) (q : Nat → Nat) (cs : Nat → ClassId) (fh : Nat → Int32) (n : Nat) (fb fl fg fr : Nat → Int32) (k : Nat) (hn : n ≤ 60) (hk : k ≤ 200) : Met l yX0_countMissing wsX0_countMissing rmX0_countMissing (rd_P D vwCl (tX cs) [.ref h] (wX h q cs fh n fb fl fg fr k)) (QcRead (rn_fo (rn_g2 fg fr) k 0 0)) 0 0 (fun _ => False) := by
  refine rd_of (cc := cX0_countMissing) (maxL := 3) (ty := .int) (by decide) rfl rfl (Nat.le_of_ble_eq_true rfl) ?_
  intro p e s m args below meth c ls Q hx hb hml hown hts hK hP hl hret
  have hown : s.vm.findClass RX0 = some m.cls := hown
  have hin : ∀ w ∈ wsX00, w ∈ wsX0_countMissing := by decide +kernel
  have hl : lv_has ls 3 [(0, .ref h)] := hl
  have loop : ∀ (f : Nat) (j : Nat) (a : Int32) (ls : Array Slot), j + f = k → rn_fo (rn_g2 fg fr) k 0 0 = rn_fo (rn_g2 fg fr) f j a → lv_has ls 3 [(0, .ref h), (1, .int a), (2, .int (nI j))] → W p l e rmX0_countMissing s m args below meth c s.heap [] 0 0 Q (F0 m 4 ls []) := by
    intro f
    induction f with
    | zero =>
      intro j a ls hj hr hl
      refine lv_iload_n hx hb dX0_countMissing_4 rfl (lv_at hl 2 rfl) ?_
      refine lv_aload_n hx hb dX0_countMissing_5 rfl (lv_at hl 0 rfl) ?_
      refine va_get (D := D) (ci := 0) (v := .int (nI k)) (C := RX0) (T := TX0) (N := 7) hx hb hts hin hown hK hP 0 rfl rfl 6 (by decide) (hts (.fieldLink RX0 30 "ReferredNames" "known" "I") (by decide +kernel)) (fun _ h9 => h9) rfl dX0_countMissing_6 ?_
      refine lv_icmp_ge (tgt := 29) hx hb dX0_countMissing_9 (by decide) (fun c0 => ?_) (fun c0 => ?_)
      · rw [nI_leI (by omega) (by omega)] at c0
        refine lv_iload_n hx hb dX0_countMissing_29 rfl (lv_at hl 1 rfl) ?_
        exact rb_top (hr.symm) (hret _ _ dX0_countMissing_30)
      · rw [nI_leI (by omega) (by omega)] at c0
        exfalso; omega
    | succ f ih =>
      intro j a ls hj hr hl
      refine lv_iload_n hx hb dX0_countMissing_4 rfl (lv_at hl 2 rfl) ?_
      refine lv_aload_n hx hb dX0_countMissing_5 rfl (lv_at hl 0 rfl) ?_
      refine va_get (D := D) (ci := 0) (v := .int (nI k)) (C := RX0) (T := TX0) (N := 7) hx hb hts hin hown hK hP 0 rfl rfl 6 (by decide) (hts (.fieldLink RX0 30 "ReferredNames" "known" "I") (by decide +kernel)) (fun _ h9 => h9) rfl dX0_countMissing_6 ?_
      refine lv_icmp_ge (tgt := 29) hx hb dX0_countMissing_9 (by decide) (fun c0 => ?_) (fun c0 => ?_)
      · rw [nI_leI (by omega) (by omega)] at c0
        exfalso; omega
      · rw [nI_leI (by omega) (by omega)] at c0
        refine lv_aload_n hx hb dX0_countMissing_12 rfl (lv_at hl 0 rfl) ?_
        refine lv_iload_n hx hb dX0_countMissing_13 rfl (lv_at hl 2 rfl) ?_
        refine rd_call (ci := 0) (b := h) (As := [.int (nI j)]) (rest := []) ⟨hx, hb, hml, hown, hts⟩ (kX0_isMissing l D h q cs fh n fb fl fg fr k (by omega) (by omega) j (by omega)) (cwV 1 hts gX0_countMissing_X0_isMissing rfl rfl rfl (by decide +kernel) ⟨Nat.le_of_ble_eq_true rfl, Nat.le_of_ble_eq_true rfl⟩) hK hP rfl rfl rfl rfl hl.1 rfl (Nat.le_of_ble_eq_true rfl) dX0_countMissing_14 ⟨Nat.zero_le _, Nat.zero_le _⟩ ?_
        refine lv_if_eq (tgt := 23) hx hb dX0_countMissing_17 (by decide) (fun c1 => ?_) (fun c1 => ?_)
        · refine lv_iinc (v := nI (j + 1)) (lv' := [(2, .int (nI (j + 1))), (0, .ref h), (1, .int a)]) hx hb dX0_countMissing_23 hl (k := 2) rfl (nI_1 j) (by decide) rfl (fun ls hl => ?_)
          refine lv_goto (tgt := 4) hx hb dX0_countMissing_26 (by decide) ?_
          exact ih (j + 1) (a) ls (by omega) (hr.trans (rn_fo_s (rn_g2_f (rn_b_eq c1)))) (lv_sub hl [1, 2, 0] rfl)
        · refine lv_iinc (v := a + 1) (lv' := [(1, .int (a + 1)), (0, .ref h), (2, .int (nI j))]) hx hb dX0_countMissing_20 hl (k := 1) rfl rfl (by decide) rfl (fun ls hl => ?_)
          refine lv_iinc (v := nI (j + 1)) (lv' := [(2, .int (nI (j + 1))), (1, .int (a + 1)), (0, .ref h)]) hx hb dX0_countMissing_23 hl (k := 2) rfl (nI_1 j) (by decide) rfl (fun ls hl => ?_)
          refine lv_goto (tgt := 4) hx hb dX0_countMissing_26 (by decide) ?_
          exact ih (j + 1) (a + 1) ls (by omega) (hr.trans (rn_fo_s (rn_g2_t (rn_b_ne c1)))) (lv_sub hl [2, 1, 0] rfl)
  refine lv_iconst (v := nI 0) hx hb dX0_countMissing_0 (by decide) ?_
  refine lv_istore_n (lv' := [(1, .int (nI 0)), (0, .ref h)]) hx hb dX0_countMissing_1 rfl hl (by decide) rfl (fun ls hl => ?_)
  refine lv_iconst (v := nI 0) hx hb dX0_countMissing_2 (by decide) ?_
  refine lv_istore_n (lv' := [(2, .int (nI 0)), (1, .int (nI 0)), (0, .ref h)]) hx hb dX0_countMissing_3 rfl hl (by decide) rfl (fun ls hl => ?_)
  exact loop k 0 0 ls (by omega) rfl (lv_sub hl [2, 1, 0] rfl)
abbrev rmX0_countGivingsInVain : Room := { frames := 1, cells := 0, slots := 0, locals := 21 }
set_option maxHeartbeats 4000000 in
set_option maxRecDepth 100000 in
theorem kX0_countGivingsInVain (l : Launch) (D : va_G) (h : Nat) (q : Nat → Nat) (cs : Nat → ClassId) (fh : Nat → Int32) (n : Nat) (fb fl fg fr : Nat → Int32) (k : Nat) (hn : n ≤ 60) (hk : k ≤ 200) : Met l yX0_countGivingsInVain wsX0_countGivingsInVain rmX0_countGivingsInVain (rd_P D vwCl (tX cs) [.ref h] (wX h q cs fh n fb fl fg fr k)) (QcRead (rn_fo (rn_g3 fg) k 0 0)) 0 0 (fun _ => False) := by
  refine rd_of (cc := cX0_countGivingsInVain) (maxL := 3) (ty := .int) (by decide) rfl rfl (Nat.le_of_ble_eq_true rfl) ?_
  intro p e s m args below meth c ls Q hx hb hml hown hts hK hP hl hret
  have hown : s.vm.findClass RX0 = some m.cls := hown
  have hin : ∀ w ∈ wsX00, w ∈ wsX0_countGivingsInVain := by decide +kernel
  have hl : lv_has ls 3 [(0, .ref h)] := hl
  have loop : ∀ (f : Nat) (j : Nat) (a : Int32) (ls : Array Slot), j + f = k → rn_fo (rn_g3 fg) k 0 0 = rn_fo (rn_g3 fg) f j a → lv_has ls 3 [(0, .ref h), (1, .int a), (2, .int (nI j))] → W p l e rmX0_countGivingsInVain s m args below meth c s.heap [] 0 0 Q (F0 m 4 ls []) := by
    intro f
    induction f with
    | zero =>
      intro j a ls hj hr hl
      refine lv_iload_n hx hb dX0_countGivingsInVain_4 rfl (lv_at hl 2 rfl) ?_
      refine lv_aload_n hx hb dX0_countGivingsInVain_5 rfl (lv_at hl 0 rfl) ?_
      refine va_get (D := D) (ci := 0) (v := .int (nI k)) (C := RX0) (T := TX0) (N := 7) hx hb hts hin hown hK hP 0 rfl rfl 6 (by decide) (hts (.fieldLink RX0 30 "ReferredNames" "known" "I") (by decide +kernel)) (fun _ h9 => h9) rfl dX0_countGivingsInVain_6 ?_
      refine lv_icmp_ge (tgt := 37) hx hb dX0_countGivingsInVain_9 (by decide) (fun c0 => ?_) (fun c0 => ?_)
      · rw [nI_leI (by omega) (by omega)] at c0
        refine lv_iload_n hx hb dX0_countGivingsInVain_37 rfl (lv_at hl 1 rfl) ?_
        exact rb_top (hr.symm) (hret _ _ dX0_countGivingsInVain_38)
      · rw [nI_leI (by omega) (by omega)] at c0
        exfalso; omega
    | succ f ih =>
      intro j a ls hj hr hl
      refine lv_iload_n hx hb dX0_countGivingsInVain_4 rfl (lv_at hl 2 rfl) ?_
      refine lv_aload_n hx hb dX0_countGivingsInVain_5 rfl (lv_at hl 0 rfl) ?_
      refine va_get (D := D) (ci := 0) (v := .int (nI k)) (C := RX0) (T := TX0) (N := 7) hx hb hts hin hown hK hP 0 rfl rfl 6 (by decide) (hts (.fieldLink RX0 30 "ReferredNames" "known" "I") (by decide +kernel)) (fun _ h9 => h9) rfl dX0_countGivingsInVain_6 ?_
      refine lv_icmp_ge (tgt := 37) hx hb dX0_countGivingsInVain_9 (by decide) (fun c0 => ?_) (fun c0 => ?_)
      · rw [nI_leI (by omega) (by omega)] at c0
        exfalso; omega
      · rw [nI_leI (by omega) (by omega)] at c0
        refine lv_aload_n hx hb dX0_countGivingsInVain_12 rfl (lv_at hl 0 rfl) ?_
        refine lv_iload_n hx hb dX0_countGivingsInVain_13 rfl (lv_at hl 2 rfl) ?_
        refine rd_call (ci := 0) (b := h) (As := [.int (nI j)]) (rest := []) ⟨hx, hb, hml, hown, hts⟩ (kX0_isGiven l D h q cs fh n fb fl fg fr k (by omega) (by omega) j (by omega)) (cwV 1 hts gX0_countGivingsInVain_X0_isGiven rfl rfl rfl (by decide +kernel) ⟨Nat.le_of_ble_eq_true rfl, Nat.le_of_ble_eq_true rfl⟩) hK hP rfl rfl rfl rfl hl.1 rfl (Nat.le_of_ble_eq_true rfl) dX0_countGivingsInVain_14 ⟨Nat.zero_le _, Nat.zero_le _⟩ ?_
        refine lv_if_eq (tgt := 31) hx hb dX0_countGivingsInVain_17 (by decide) (fun c1 => ?_) (fun c1 => ?_)
        · refine lv_iinc (v := nI (j + 1)) (lv' := [(2, .int (nI (j + 1))), (0, .ref h), (1, .int a)]) hx hb dX0_countGivingsInVain_31 hl (k := 2) rfl (nI_1 j) (by decide) rfl (fun ls hl => ?_)
          refine lv_goto (tgt := 4) hx hb dX0_countGivingsInVain_34 (by decide) ?_
          exact ih (j + 1) (a) ls (by omega) (hr.trans (rn_fo_s (rn_g3_f (rn_b_eq c1)))) (lv_sub hl [1, 2, 0] rfl)
        · refine lv_iload_n hx hb dX0_countGivingsInVain_20 rfl (lv_at hl 1 rfl) ?_
          refine lv_aload_n hx hb dX0_countGivingsInVain_21 rfl (lv_at hl 0 rfl) ?_
          refine va_get (D := D) (ci := 0) (v := .ref (q 4)) (C := RX0) (T := TX0) (N := 7) hx hb hts hin hown hK hP 0 rfl rfl 4 (by decide) (hts (.fieldLink RX0 24 "ReferredNames" "givings" "[I") (by decide +kernel)) (fun _ h9 => h9) rfl dX0_countGivingsInVain_22 ?_
          refine lv_iload_n hx hb dX0_countGivingsInVain_25 rfl (lv_at hl 2 rfl) ?_
          refine rb_ild hx hb hK hP 4 3 rfl rfl (i := j) (by omega) (by decide) dX0_countGivingsInVain_26 ?_
          refine lv_iconst (v := nI 1) hx hb dX0_countGivingsInVain_27 (by decide) ?_
          refine lv_isub hx hb dX0_countGivingsInVain_28 ?_
          refine lv_iadd hx hb dX0_countGivingsInVain_29 ?_
          refine lv_istore_n (lv' := [(1, .int (a + ((fg j) - (nI 1)))), (0, .ref h), (2, .int (nI j))]) hx hb dX0_countGivingsInVain_30 rfl hl (by decide) rfl (fun ls hl => ?_)
          refine lv_iinc (v := nI (j + 1)) (lv' := [(2, .int (nI (j + 1))), (1, .int (a + ((fg j) - (nI 1)))), (0, .ref h)]) hx hb dX0_countGivingsInVain_31 hl (k := 2) rfl (nI_1 j) (by decide) rfl (fun ls hl => ?_)
          refine lv_goto (tgt := 4) hx hb dX0_countGivingsInVain_34 (by decide) ?_
          exact ih (j + 1) (a + ((fg j) - (nI 1))) ls (by omega) (hr.trans (rn_fo_s (rn_g3_t (rn_b_ne c1)))) (lv_sub hl [2, 1, 0] rfl)
  refine lv_iconst (v := nI 0) hx hb dX0_countGivingsInVain_0 (by decide) ?_
  refine lv_istore_n (lv' := [(1, .int (nI 0)), (0, .ref h)]) hx hb dX0_countGivingsInVain_1 rfl hl (by decide) rfl (fun ls hl => ?_)
  refine lv_iconst (v := nI 0) hx hb dX0_countGivingsInVain_2 (by decide) ?_
  refine lv_istore_n (lv' := [(2, .int (nI 0)), (1, .int (nI 0)), (0, .ref h)]) hx hb dX0_countGivingsInVain_3 rfl hl (by decide) rfl (fun ls hl => ?_)
  exact loop k 0 0 ls (by omega) rfl (lv_sub hl [2, 1, 0] rfl)
abbrev rmX0_look : Room := { frames := 3, cells := 0, slots := 0, locals := 64 }
set_option maxHeartbeats 4000000 in
set_option maxRecDepth 100000 in
theorem kX0_look (l : Launch) (D : va_G) (h : Nat) (q : Nat → Nat) (cs : Nat → ClassId) (fh : Nat → Int32) (n : Nat) (fb fl fg fr : Nat → Int32) (k : Nat) (hn : n ≤ 60) (hk : k ≤ 200) (x : Int32) (w : Int32) : Met l yX0_look wsX0_look rmX0_look (rd_P D vwCl (tX cs) [.ref h, .int x, .int w] (wX h q cs fh n fb fl fg fr k)) (QcRead (rn_look fl fg fr k x w)) 0 0 (fun _ => False) := by
  refine rd_of (cc := cX0_look) (maxL := 3) (ty := .int) (by decide) rfl rfl (Nat.le_of_ble_eq_true rfl) ?_
  intro p e s m args below meth c ls Q hx hb hml hown hts hK hP hl hret
  have hown : s.vm.findClass RX0 = some m.cls := hown
  have hin : ∀ w ∈ wsX00, w ∈ wsX0_look := by decide +kernel
  have hl : lv_has ls 3 [(0, .ref h), (1, .int x), (2, .int w)] := hl
  refine lv_aload_n hx hb dX0_look_0 rfl (lv_at hl 0 rfl) ?_
  refine lv_iload_n hx hb dX0_look_1 rfl (lv_at hl 1 rfl) ?_
  refine rd_call (ci := 0) (b := h) (As := [.int x]) (rest := []) ⟨hx, hb, hml, hown, hts⟩ (kX0_isKnown l D h q cs fh n fb fl fg fr k (by omega) (by omega) x) (cwV 1 hts gX0_look_X0_isKnown rfl rfl rfl (by decide +kernel) ⟨Nat.le_of_ble_eq_true rfl, Nat.le_of_ble_eq_true rfl⟩) hK hP rfl rfl rfl rfl hl.1 rfl (Nat.le_of_ble_eq_true rfl) dX0_look_2 ⟨Nat.zero_le _, Nat.zero_le _⟩ ?_
  refine lv_if_ne (tgt := 10) hx hb dX0_look_5 (by decide) (fun c0 => ?_) (fun c0 => ?_)
  · obtain ⟨j, hj, rfl⟩ := rn_kn_t (by omega) (rn_b_ne c0)
    refine lv_iload_n hx hb dX0_look_10 rfl (lv_at hl 2 rfl) ?_
    rcases rn_sw (x := w) (n := 4) (by decide) with ⟨j0s, hj0s, rfl⟩ | hj0s
    · rcases (show j0s = 0 ∨ j0s = 1 ∨ j0s = 2 ∨ j0s = 3 by omega) with rfl | rfl | rfl | rfl
      · refine lv_tableIn (off := 29) (tgt := 40) hx hb dX0_look_11 (by decide) (by decide) (by decide) (by decide) ?_
        refine lv_aload_n hx hb dX0_look_40 rfl (lv_at hl 0 rfl) ?_
        refine va_get (D := D) (ci := 0) (v := .ref (q 4)) (C := RX0) (T := TX0) (N := 7) hx hb hts hin hown hK hP 0 rfl rfl 4 (by decide) (hts (.fieldLink RX0 24 "ReferredNames" "givings" "[I") (by decide +kernel)) (fun _ h9 => h9) rfl dX0_look_41 ?_
        refine lv_iload_n hx hb dX0_look_44 rfl (lv_at hl 1 rfl) ?_
        refine rb_ild hx hb hK hP 4 3 rfl rfl (i := j) (by omega) (by decide) dX0_look_45 ?_
        exact rb_top ((rn_look_0 hj (by omega)).symm) (hret _ _ dX0_look_46)
      · refine lv_tableIn (off := 36) (tgt := 47) hx hb dX0_look_11 (by decide) (by decide) (by decide) (by decide) ?_
        refine lv_aload_n hx hb dX0_look_47 rfl (lv_at hl 0 rfl) ?_
        refine va_get (D := D) (ci := 0) (v := .ref (q 5)) (C := RX0) (T := TX0) (N := 7) hx hb hts hin hown hK hP 0 rfl rfl 5 (by decide) (hts (.fieldLink RX0 27 "ReferredNames" "referrals" "[I") (by decide +kernel)) (fun _ h9 => h9) rfl dX0_look_48 ?_
        refine lv_iload_n hx hb dX0_look_51 rfl (lv_at hl 1 rfl) ?_
        refine rb_ild hx hb hK hP 5 4 rfl rfl (i := j) (by omega) (by decide) dX0_look_52 ?_
        exact rb_top ((rn_look_1 hj (by omega)).symm) (hret _ _ dX0_look_53)
      · refine lv_tableIn (off := 43) (tgt := 54) hx hb dX0_look_11 (by decide) (by decide) (by decide) (by decide) ?_
        refine lv_aload_n hx hb dX0_look_54 rfl (lv_at hl 0 rfl) ?_
        refine va_get (D := D) (ci := 0) (v := .ref (q 3)) (C := RX0) (T := TX0) (N := 7) hx hb hts hin hown hK hP 0 rfl rfl 3 (by decide) (hts (.fieldLink RX0 20 "ReferredNames" "lengths" "[I") (by decide +kernel)) (fun _ h9 => h9) rfl dX0_look_55 ?_
        refine lv_iload_n hx hb dX0_look_58 rfl (lv_at hl 1 rfl) ?_
        refine rb_ild hx hb hK hP 3 2 rfl rfl (i := j) (by omega) (by decide) dX0_look_59 ?_
        exact rb_top ((rn_look_2 hj (by omega)).symm) (hret _ _ dX0_look_60)
      · refine lv_tableIn (off := 50) (tgt := 61) hx hb dX0_look_11 (by decide) (by decide) (by decide) (by decide) ?_
        refine lv_aload_n hx hb dX0_look_61 rfl (lv_at hl 0 rfl) ?_
        refine lv_iload_n hx hb dX0_look_62 rfl (lv_at hl 1 rfl) ?_
        refine lv_iconst (v := nI 1) hx hb dX0_look_63 (by decide) ?_
        refine lv_iadd hx hb dX0_look_64 ?_
        refine rb_top (y := nI (j + 1)) (nI_add j 1) ?_
        refine rd_call (ci := 0) (b := h) (As := [.int (nI (j + 1))]) (rest := []) ⟨hx, hb, hml, hown, hts⟩ (kX0_firstMissingFrom l D h q cs fh n fb fl fg fr k (by omega) (by omega) (j + 1) (by omega)) (cwV 1 hts gX0_look_X0_firstMissingFrom rfl rfl rfl (by decide +kernel) ⟨Nat.le_of_ble_eq_true rfl, Nat.le_of_ble_eq_true rfl⟩) hK hP rfl rfl rfl rfl hl.1 rfl (Nat.le_of_ble_eq_true rfl) dX0_look_65 ⟨Nat.zero_le _, Nat.zero_le _⟩ ?_
        exact rb_top ((rn_look_3 hj (by omega)).symm) (hret _ _ dX0_look_68)
    · refine lv_tableOut (tgt := 69) hx hb dX0_look_11 (by omega) (by decide) ?_
      refine lv_iconst (v := (-1)) hx hb dX0_look_69 (by decide) ?_
      exact rb_top ((rn_look_d hj0s).symm) (hret _ _ dX0_look_70)
  · refine lv_iconst (v := (-1)) hx hb dX0_look_8 (by decide) ?_
    exact rb_top ((rn_look_f (rn_b_eq c0)).symm) (hret _ _ dX0_look_9)
abbrev rmX0_byteOf : Room := { frames := 1, cells := 0, slots := 0, locals := 21 }
set_option maxHeartbeats 4000000 in
set_option maxRecDepth 100000 in
theorem kX0_byteOf (l : Launch) (D : va_G) (h : Nat) (q : Nat → Nat) (cs : Nat → ClassId) (fh : Nat → Int32) (n : Nat) (fb fl fg fr : Nat → Int32) (k : Nat) (hn : n ≤ 60) (hk : k ≤ 200) (x : Int32) (i : Int32) (hln : ∀ j, j < k → ∃ y : Nat, y ≤ 60 ∧ fl j = nI y) : Met l yX0_byteOf wsX0_byteOf rmX0_byteOf (rd_P D vwCl (tX cs) [.ref h, .int x, .int i] (wX h q cs fh n fb fl fg fr k)) (QcRead (rn_bo fb fl k x i)) 0 0 (fun _ => False) := by
  refine rd_of (cc := cX0_byteOf) (maxL := 3) (ty := .int) (by decide) rfl rfl (Nat.le_of_ble_eq_true rfl) ?_
  intro p e s m args below meth c ls Q hx hb hml hown hts hK hP hl hret
  have hown : s.vm.findClass RX0 = some m.cls := hown
  have hin : ∀ w ∈ wsX00, w ∈ wsX0_byteOf := by decide +kernel
  have hl : lv_has ls 3 [(0, .ref h), (1, .int x), (2, .int i)] := hl
  refine lv_aload_n hx hb dX0_byteOf_0 rfl (lv_at hl 0 rfl) ?_
  refine lv_iload_n hx hb dX0_byteOf_1 rfl (lv_at hl 1 rfl) ?_
  refine rd_call (ci := 0) (b := h) (As := [.int x]) (rest := []) ⟨hx, hb, hml, hown, hts⟩ (kX0_isKnown l D h q cs fh n fb fl fg fr k (by omega) (by omega) x) (cwV 1 hts gX0_byteOf_X0_isKnown rfl rfl rfl (by decide +kernel) ⟨Nat.le_of_ble_eq_true rfl, Nat.le_of_ble_eq_true rfl⟩) hK hP rfl rfl rfl rfl hl.1 rfl (Nat.le_of_ble_eq_true rfl) dX0_byteOf_2 ⟨Nat.zero_le _, Nat.zero_le _⟩ ?_
  refine lv_if_eq (tgt := 22) hx hb dX0_byteOf_5 (by decide) (fun c0 => ?_) (fun c0 => ?_)
  · refine lv_iconst (v := (-1)) hx hb dX0_byteOf_22 (by decide) ?_
    exact rb_top ((rn_bo_f (fun q9 => by rw [rn_b_eq c0] at q9; exact absurd q9.1 (by decide))).symm) (hret _ _ dX0_byteOf_23)
  · obtain ⟨j, hj, rfl⟩ := rn_kn_t (by omega) (rn_b_ne c0)
    refine lv_iload_n hx hb dX0_byteOf_8 rfl (lv_at hl 2 rfl) ?_
    refine lv_if_lt (tgt := 22) hx hb dX0_byteOf_9 (by decide) (fun c1 => ?_) (fun c1 => ?_)
    · refine lv_iconst (v := (-1)) hx hb dX0_byteOf_22 (by decide) ?_
      exact rb_top ((rn_bo_f (fun q9 => q9.2.1 c1)).symm) (hret _ _ dX0_byteOf_23)
    · refine lv_iload_n hx hb dX0_byteOf_12 rfl (lv_at hl 2 rfl) ?_
      refine lv_aload_n hx hb dX0_byteOf_13 rfl (lv_at hl 0 rfl) ?_
      refine va_get (D := D) (ci := 0) (v := .ref (q 3)) (C := RX0) (T := TX0) (N := 7) hx hb hts hin hown hK hP 0 rfl rfl 3 (by decide) (hts (.fieldLink RX0 20 "ReferredNames" "lengths" "[I") (by decide +kernel)) (fun _ h9 => h9) rfl dX0_byteOf_14 ?_
      refine lv_iload_n hx hb dX0_byteOf_17 rfl (lv_at hl 1 rfl) ?_
      refine rb_ild hx hb hK hP 3 2 rfl rfl (i := j) (by omega) (by decide) dX0_byteOf_18 ?_
      refine lv_icmp_lt (tgt := 24) hx hb dX0_byteOf_19 (by decide) (fun c2 => ?_) (fun c2 => ?_)
      · obtain ⟨y, hy, ey⟩ := hln j hj
        obtain ⟨z, hz, rfl⟩ := nI_of c1
        have hzy : z < y := by rw [ey, nI_ltI hz (by omega)] at c2; exact c2
        refine lv_aload_n hx hb dX0_byteOf_24 rfl (lv_at hl 0 rfl) ?_
        refine va_get (D := D) (ci := 0) (v := .ref (q 2)) (C := RX0) (T := TX0) (N := 7) hx hb hts hin hown hK hP 0 rfl rfl 2 (by decide) (hts (.fieldLink RX0 17 "ReferredNames" "bytes" "[B") (by decide +kernel)) (fun _ h9 => h9) rfl dX0_byteOf_25 ?_
        refine lv_iload_n hx hb dX0_byteOf_28 rfl (lv_at hl 1 rfl) ?_
        refine lv_bipush (v := nI 60) hx hb dX0_byteOf_29 (by decide) ?_
        refine lv_imul hx hb dX0_byteOf_31 ?_
        refine rb_top (y := nI (j * 60)) (pk_mul j 60) ?_
        refine lv_iload_n hx hb dX0_byteOf_32 rfl (lv_at hl 2 rfl) ?_
        refine lv_iadd hx hb dX0_byteOf_33 ?_
        refine rb_top (y := nI ((j * 60) + z)) (nI_add (j * 60) z) ?_
        refine rb_bld hx hb hK hP 2 1 rfl rfl (i := (j * 60) + z) (by omega) (by decide) dX0_byteOf_34 ?_
        refine lv_sipush (v := nI 255) hx hb dX0_byteOf_35 (by decide) ?_
        refine lv_iand hx hb dX0_byteOf_38 ?_
        exact rb_top ((rn_bo_t hj (by omega) hz c2).symm) (hret _ _ dX0_byteOf_39)
      · refine lv_iconst (v := (-1)) hx hb dX0_byteOf_22 (by decide) ?_
        exact rb_top ((rn_bo_f (fun q9 => c2 (by have q8 := q9.2.2; rw [nI_clamp (by omega)] at q8; exact q8))).symm) (hret _ _ dX0_byteOf_23)
abbrev rmX0_count : Room := { frames := 3, cells := 0, slots := 0, locals := 64 }
set_option maxHeartbeats 4000000 in
set_option maxRecDepth 100000 in
theorem kX0_count (l : Launch) (D : va_G) (h : Nat) (q : Nat → Nat) (cs : Nat → ClassId) (fh : Nat → Int32) (n : Nat) (fb fl fg fr : Nat → Int32) (k : Nat) (hn : n ≤ 60) (hk : k ≤ 200) (w : Int32) : Met l yX0_count wsX0_count rmX0_count (rd_P D vwCl (tX cs) [.ref h, .int w] (wX h q cs fh n fb fl fg fr k)) (QcRead (rn_cnt n fg fr k w)) 0 0 (fun _ => False) := by
  refine rd_of (cc := cX0_count) (maxL := 2) (ty := .int) (by decide) rfl rfl (Nat.le_of_ble_eq_true rfl) ?_
  intro p e s m args below meth c ls Q hx hb hml hown hts hK hP hl hret
  have hown : s.vm.findClass RX0 = some m.cls := hown
  have hin : ∀ w ∈ wsX00, w ∈ wsX0_count := by decide +kernel
  have hl : lv_has ls 2 [(0, .ref h), (1, .int w)] := hl
  refine lv_iload_n hx hb dX0_count_0 rfl (lv_at hl 1 rfl) ?_
  rcases rn_sw (x := w) (n := 6) (by decide) with ⟨j0s, hj0s, rfl⟩ | hj0s
  · rcases (show j0s = 0 ∨ j0s = 1 ∨ j0s = 2 ∨ j0s = 3 ∨ j0s = 4 ∨ j0s = 5 by omega) with rfl | rfl | rfl | rfl | rfl | rfl
    · refine lv_tableIn (off := 39) (tgt := 40) hx hb dX0_count_1 (by decide) (by decide) (by decide) (by decide) ?_
      refine lv_aload_n hx hb dX0_count_40 rfl (lv_at hl 0 rfl) ?_
      refine va_get (D := D) (ci := 0) (v := .int (nI k)) (C := RX0) (T := TX0) (N := 7) hx hb hts hin hown hK hP 0 rfl rfl 6 (by decide) (hts (.fieldLink RX0 30 "ReferredNames" "known" "I") (by decide +kernel)) (fun _ h9 => h9) rfl dX0_count_41 ?_
      exact rb_top (rn_cnt_0.symm) (hret _ _ dX0_count_44)
    · refine lv_tableIn (off := 44) (tgt := 45) hx hb dX0_count_1 (by decide) (by decide) (by decide) (by decide) ?_
      refine lv_aload_n hx hb dX0_count_45 rfl (lv_at hl 0 rfl) ?_
      refine rd_call (ci := 0) (b := h) (As := []) (rest := []) ⟨hx, hb, hml, hown, hts⟩ (kX0_countGiven l D h q cs fh n fb fl fg fr k (by omega) (by omega)) (cwV 0 hts gX0_count_X0_countGiven rfl rfl rfl (by decide +kernel) ⟨Nat.le_of_ble_eq_true rfl, Nat.le_of_ble_eq_true rfl⟩) hK hP rfl rfl rfl rfl hl.1 rfl (Nat.le_of_ble_eq_true rfl) dX0_count_46 ⟨Nat.zero_le _, Nat.zero_le _⟩ ?_
      exact rb_top (rn_cnt_1.symm) (hret _ _ dX0_count_49)
    · refine lv_tableIn (off := 49) (tgt := 50) hx hb dX0_count_1 (by decide) (by decide) (by decide) (by decide) ?_
      refine lv_aload_n hx hb dX0_count_50 rfl (lv_at hl 0 rfl) ?_
      refine rd_call (ci := 0) (b := h) (As := []) (rest := []) ⟨hx, hb, hml, hown, hts⟩ (kX0_countMissing l D h q cs fh n fb fl fg fr k (by omega) (by omega)) (cwV 0 hts gX0_count_X0_countMissing rfl rfl rfl (by decide +kernel) ⟨Nat.le_of_ble_eq_true rfl, Nat.le_of_ble_eq_true rfl⟩) hK hP rfl rfl rfl rfl hl.1 rfl (Nat.le_of_ble_eq_true rfl) dX0_count_51 ⟨Nat.zero_le _, Nat.zero_le _⟩ ?_
      exact rb_top (rn_cnt_2.symm) (hret _ _ dX0_count_54)
    · refine lv_tableIn (off := 54) (tgt := 55) hx hb dX0_count_1 (by decide) (by decide) (by decide) (by decide) ?_
      refine lv_aload_n hx hb dX0_count_55 rfl (lv_at hl 0 rfl) ?_
      refine rd_call (ci := 0) (b := h) (As := []) (rest := []) ⟨hx, hb, hml, hown, hts⟩ (kX0_countGivingsInVain l D h q cs fh n fb fl fg fr k (by omega) (by omega)) (cwV 0 hts gX0_count_X0_countGivingsInVain rfl rfl rfl (by decide +kernel) ⟨Nat.le_of_ble_eq_true rfl, Nat.le_of_ble_eq_true rfl⟩) hK hP rfl rfl rfl rfl hl.1 rfl (Nat.le_of_ble_eq_true rfl) dX0_count_56 ⟨Nat.zero_le _, Nat.zero_le _⟩ ?_
      exact rb_top (rn_cnt_3.symm) (hret _ _ dX0_count_59)
    · refine lv_tableIn (off := 59) (tgt := 60) hx hb dX0_count_1 (by decide) (by decide) (by decide) (by decide) ?_
      refine lv_aload_n hx hb dX0_count_60 rfl (lv_at hl 0 rfl) ?_
      refine va_get (D := D) (ci := 0) (v := .int (nI n)) (C := RX0) (T := TX0) (N := 7) hx hb hts hin hown hK hP 0 rfl rfl 1 (by decide) (hts (.fieldLink RX0 13 "ReferredNames" "handLength" "I") (by decide +kernel)) (fun _ h9 => h9) rfl dX0_count_61 ?_
      exact rb_top (rn_cnt_4.symm) (hret _ _ dX0_count_64)
    · refine lv_tableIn (off := 64) (tgt := 65) hx hb dX0_count_1 (by decide) (by decide) (by decide) (by decide) ?_
      refine lv_aload_n hx hb dX0_count_65 rfl (lv_at hl 0 rfl) ?_
      refine lv_iconst (v := nI 0) hx hb dX0_count_66 (by decide) ?_
      refine rd_call (ci := 0) (b := h) (As := [.int (nI 0)]) (rest := []) ⟨hx, hb, hml, hown, hts⟩ (kX0_firstMissingFrom l D h q cs fh n fb fl fg fr k (by omega) (by omega) 0 (by omega)) (cwV 1 hts gX0_count_X0_firstMissingFrom rfl rfl rfl (by decide +kernel) ⟨Nat.le_of_ble_eq_true rfl, Nat.le_of_ble_eq_true rfl⟩) hK hP rfl rfl rfl rfl hl.1 rfl (Nat.le_of_ble_eq_true rfl) dX0_count_67 ⟨Nat.zero_le _, Nat.zero_le _⟩ ?_
      exact rb_top (rn_cnt_5.symm) (hret _ _ dX0_count_70)
  · refine lv_tableOut (tgt := 71) hx hb dX0_count_1 (by omega) (by decide) ?_
    refine lv_iconst (v := (-1)) hx hb dX0_count_71 (by decide) ?_
    exact rb_top ((rn_cnt_d hj0s).symm) (hret _ _ dX0_count_72)
end
section
abbrev rmX0_put : Room := { frames := 0, cells := 0, slots := 0, locals := 0 }
set_option maxHeartbeats 4000000 in
set_option maxRecDepth 100000 in
theorem kX0_put (l : Launch) (D : va_G) (h : Nat) (q : Nat → Nat) (cs : Nat → ClassId) (fh : Nat → Int32) (n : Nat) (fb fl fg fr : Nat → Int32) (k : Nat) (hn : n ≤ 60) (hk : k ≤ 200) (v : Int64) (ct : Int32) (sz : Nat) : Met l yX0_put wsX0_put rmX0_put (wr_P D vwCl (tX cs) [.ref h, .long v, .int ct] (wX h q cs fh n fb fl fg fr k) sz) (wr_Q D vwCl (tX cs) (wX h q cs fh n fb fl fg fr k) (wS h q cs (rn_pt v ct fh n fb fl fg fr k).2) sz ((rn_pt v ct fh n fb fl fg fr k).1)) 0 0 (va_A (wX h q cs fh n fb fl fg fr k) sz) := by
  refine wr_of (cc := cX0_put) (maxL := 5) (ty := .boolean) (by decide) rfl rn_pt_nar (Nat.le_of_ble_eq_true rfl) ?_
  intro p e s m args below meth c ls Q A hx hb hml hown hts hK hA hP hD hS hl hret
  have hown : s.vm.findClass RX0 = some m.cls := hown
  have hin : ∀ w ∈ wsX00, w ∈ wsX0_put := by decide +kernel
  have hl : lv_has ls 5 [(0, .ref h), (1, .long v), (3, .int ct)] := hl
  refine lv_iload_n hx hb dX0_put_0 rfl (lv_at hl 2 rfl) ?_
  refine lv_iconst (v := nI 1) hx hb dX0_put_1 (by decide) ?_
  refine lv_icmp_lt (tgt := 22) hx hb dX0_put_2 (by decide) (fun c0 => ?_) (fun c0 => ?_)
  · rw [rn_pt_f (Or.inl c0)] at hret
    refine lv_iconst (v := nI 0) hx hb dX0_put_22 (by decide) ?_
    refine rb_top (y := nI 0) rfl ?_
    exact hret _ _ _ _ dX0_put_23 hP hD hS
  · refine lv_iload_n hx hb dX0_put_5 rfl (lv_at hl 2 rfl) ?_
    refine lv_bipush (v := nI 8) hx hb dX0_put_6 (by decide) ?_
    refine lv_icmp_gt (tgt := 22) hx hb dX0_put_8 (by decide) (fun c1 => ?_) (fun c1 => ?_)
    · rw [rn_pt_f (Or.inr (Or.inl c1))] at hret
      refine lv_iconst (v := nI 0) hx hb dX0_put_22 (by decide) ?_
      refine rb_top (y := nI 0) rfl ?_
      exact hret _ _ _ _ dX0_put_23 hP hD hS
    · refine lv_iload_n hx hb dX0_put_11 rfl (lv_at hl 2 rfl) ?_
      refine lv_bipush (v := nI 60) hx hb dX0_put_12 (by decide) ?_
      refine lv_aload_n hx hb dX0_put_14 rfl (lv_at hl 0 rfl) ?_
      refine va_get (D := D) (ci := 0) (v := .int (nI n)) (C := RX0) (T := TX0) (N := 7) hx hb hts hin hown hK hP 0 rfl rfl 1 (by decide) (hts (.fieldLink RX0 13 "ReferredNames" "handLength" "I") (by decide +kernel)) (fun _ h9 => h9) rfl dX0_put_15 ?_
      refine lv_isub hx hb dX0_put_18 ?_
      refine rb_top (y := nI (60 - n)) (pk_sub (a := 60) (b := n) (by omega)) ?_
      refine lv_icmp_le (tgt := 24) hx hb dX0_put_19 (by decide) (fun c2 => ?_) (fun c2 => ?_)
      · obtain ⟨cN, h1c, h8c, hnc, rfl⟩ := rn_c c0 c1 c2
        rw [rn_pt_t h1c h8c hnc] at hret
        refine lv_iload_n hx hb dX0_put_24 rfl (lv_at hl 2 rfl) ?_
        refine lv_iconst (v := nI 1) hx hb dX0_put_25 (by decide) ?_
        refine lv_isub hx hb dX0_put_26 ?_
        refine rb_top (y := nI cN + (-1)) (rn_p1 h1c) ?_
        refine lv_istore (lv' := [(4, .int (nI cN + (-1))), (0, .ref h), (1, .long v), (3, .int (nI cN))]) hx hb dX0_put_27 hl (by decide) rfl (fun ls hl => ?_)
        have loop : ∀ (f : Nat) (n1 : Nat) (f1 : Nat → Int32) (H : Heap) (locs : List Loc) (ls : Array Slot), n1 + f ≤ 60 → rn_pu v f n1 f1 = rn_pu v cN n fh → n1 + f = n + cN → va_P D vwCl (wX h q cs f1 n1 fb fl fg fr k) H → va_D A (wX h q cs f1 n1 fb fl fg fr k) → va_S A s.heap H locs → lv_has ls 5 [(0, .ref h), (1, .long v), (4, .int (nI f + (-1)))] → W p l e rmX0_put s m args below meth c H locs 0 0 Q (F0 m 29 ls []) := by
          intro f
          induction f with
          | zero =>
            intro n1 f1 H locs ls h60 he hnn hP hD hS hl
            refine lv_iload hx hb dX0_put_29 (lv_at hl 2 rfl) ?_
            refine lv_if_lt (tgt := 68) hx hb dX0_put_31 (by decide) (fun c3 => ?_) (fun c3 => ?_)
            · have he : f1 = rn_pu v cN n fh := he
              have hnn : n1 = n + cN := hnn
              rw [he, hnn] at hP hD
              refine lv_iconst (v := nI 1) hx hb dX0_put_68 (by decide) ?_
              refine rb_top (y := nI 1) rfl ?_
              exact hret _ _ _ _ dX0_put_69 hP hD hS
            · exact absurd (show nI 0 + (-1) < 0 by decide) c3
          | succ f ih =>
            intro n1 f1 H locs ls h60 he hnn hP hD hS hl
            refine lv_iload hx hb dX0_put_29 (lv_at hl 2 rfl) ?_
            refine lv_if_lt (tgt := 68) hx hb dX0_put_31 (by decide) (fun c3 => ?_) (fun c3 => ?_)
            · exact absurd c3 (by rw [pk_m1]; exact nI_pos (by omega))
            · rw [pk_m1] at hl
              refine lv_aload_n hx hb dX0_put_34 rfl (lv_at hl 0 rfl) ?_
              refine va_get (D := D) (ci := 0) (v := .ref (q 1)) (C := RX0) (T := TX0) (N := 7) hx hb hts hin hown hK hP 0 rfl rfl 0 (by decide) (hts (.fieldLink RX0 9 "ReferredNames" "hand" "[B") (by decide +kernel)) (fun _ h9 => h9) rfl dX0_put_35 ?_
              refine lv_aload_n hx hb dX0_put_38 rfl (lv_at hl 0 rfl) ?_
              refine va_get (D := D) (ci := 0) (v := .int (nI n1)) (C := RX0) (T := TX0) (N := 7) hx hb hts hin hown hK hP 0 rfl rfl 1 (by decide) (hts (.fieldLink RX0 13 "ReferredNames" "handLength" "I") (by decide +kernel)) (fun _ h9 => h9) rfl dX0_put_39 ?_
              refine lv_lload_n hx hb dX0_put_42 rfl (lv_at hl 1 rfl) ?_
              refine lv_bipush (v := nI 8) hx hb dX0_put_43 (by decide) ?_
              refine lv_iload hx hb dX0_put_45 (lv_at hl 2 rfl) ?_
              refine lv_imul hx hb dX0_put_47 ?_
              refine rb_top (y := nI (8 * f)) (pk_mul 8 f) ?_
              refine lv_lushr (v := (v.toUInt64 >>> ((nI (8 * f)).toInt64.toUInt64 &&& Int64.toUInt64 63)).toInt64) hx hb dX0_put_48 rfl ?_
              refine lv_l2i (v := ((v.toUInt64 >>> ((nI (8 * f)).toInt64.toUInt64 &&& Int64.toUInt64 63)).toInt64).toInt32) hx hb dX0_put_49 rfl ?_
              refine lv_i2b (v := (((v.toUInt64 >>> ((nI (8 * f)).toInt64.toUInt64 &&& Int64.toUInt64 63)).toInt64).toInt32).toInt8.toInt32) hx hb dX0_put_50 rfl ?_
              refine rb_top (y := rn_by v f) rfl ?_
              refine rb_bst hx hb hK hP hD hS 1 0 rfl rfl (i := n1) (by omega) (by decide) (rn_by_b v f) dX0_put_51 (fun H locs hP hD hS => ?_)
              have hP : va_P D vwCl (wX h q cs (upd f1 n1 (rn_by v f)) n1 fb fl fg fr k) H := hP
              have hD : va_D A (wX h q cs (upd f1 n1 (rn_by v f)) n1 fb fl fg fr k) := hD
              refine lv_aload_n hx hb dX0_put_52 rfl (lv_at hl 0 rfl) ?_
              refine lv_dup hx hb dX0_put_53 rfl ?_
              refine va_get (D := D) (ci := 0) (v := .int (nI n1)) (C := RX0) (T := TX0) (N := 7) hx hb hts hin hown hK hP 0 rfl rfl 1 (by decide) (hts (.fieldLink RX0 13 "ReferredNames" "handLength" "I") (by decide +kernel)) (fun _ h9 => h9) rfl dX0_put_54 ?_
              refine lv_iconst (v := nI 1) hx hb dX0_put_57 (by decide) ?_
              refine lv_iadd hx hb dX0_put_58 ?_
              refine rb_top (y := nI (n1 + 1)) (nI_add n1 1) ?_
              refine va_put (D := D) (ci := 0) (v := .int (nI (n1 + 1))) (ty := .int) (C := RX0) (T := TX0) (N := 7) hx hb hts hin tyX0 tyX0_ok nmX0 hown hK hP hD hS 0 rfl rfl 1 (by decide) (hts (.fieldLink RX0 13 "ReferredNames" "handLength" "I") (by decide +kernel)) (fun _ h9 => h9) rfl (by decide +kernel) rfl rfl (Nat.le_of_ble_eq_true rfl) dX0_put_59 (fun H locs hP hD hS => ?_)
              have hP : va_P D vwCl (wX h q cs (upd f1 n1 (rn_by v f)) (n1 + 1) fb fl fg fr k) H := hP
              have hD : va_D A (wX h q cs (upd f1 n1 (rn_by v f)) (n1 + 1) fb fl fg fr k) := hD
              refine lv_iinc (v := nI f + (-1)) (lv' := [(4, .int (nI f + (-1))), (0, .ref h), (1, .long v)]) hx hb dX0_put_62 hl (k := 2) rfl rfl (by decide) rfl (fun ls hl => ?_)
              refine lv_goto (tgt := 29) hx hb dX0_put_65 (by decide) ?_
              exact ih (n1 + 1) (upd f1 n1 (rn_by v f)) H locs ls (by omega) he (by omega) hP hD hS (lv_sub hl [1, 2, 0] rfl)
        exact loop cN n fh _ _ ls (by omega) rfl rfl hP hD hS (lv_sub hl [1, 2, 0] rfl)
      · rw [rn_pt_f (Or.inr (Or.inr (Int32.not_le.mp c2)))] at hret
        refine lv_iconst (v := nI 0) hx hb dX0_put_22 (by decide) ?_
        refine rb_top (y := nI 0) rfl ?_
        exact hret _ _ _ _ dX0_put_23 hP hD hS
abbrev rmX0_learnHand : Room := { frames := 0, cells := 0, slots := 0, locals := 0 }
set_option maxHeartbeats 4000000 in
set_option maxRecDepth 100000 in
theorem kX0_learnHand (l : Launch) (D : va_G) (h : Nat) (q : Nat → Nat) (cs : Nat → ClassId) (fh : Nat → Int32) (n : Nat) (fb fl fg fr : Nat → Int32) (k : Nat) (hn : n ≤ 60) (hk : k ≤ 200) (sz : Nat) (hby : ∀ i, (fh i).toInt8.toInt32 = fh i) : Met l yX0_learnHand wsX0_learnHand rmX0_learnHand (wr_P D vwCl (tX cs) [.ref h] (wX h q cs fh n fb fl fg fr k) sz) (wr_Q D vwCl (tX cs) (wX h q cs fh n fb fl fg fr k) (wS h q cs (rn_le fh n fb fl fg fr k).2) sz ((rn_le fh n fb fl fg fr k).1)) 0 0 (va_A (wX h q cs fh n fb fl fg fr k) sz) := by
  refine wr_of (cc := cX0_learnHand) (maxL := 3) (ty := .int) (by decide) rfl rfl (Nat.le_of_ble_eq_true rfl) ?_
  intro p e s m args below meth c ls Q A hx hb hml hown hts hK hA hP hD hS hl hret
  have hown : s.vm.findClass RX0 = some m.cls := hown
  have hin : ∀ w ∈ wsX00, w ∈ wsX0_learnHand := by decide +kernel
  have hl : lv_has ls 3 [(0, .ref h)] := hl
  refine lv_aload_n hx hb dX0_learnHand_0 rfl (lv_at hl 0 rfl) ?_
  refine va_get (D := D) (ci := 0) (v := .int (nI k)) (C := RX0) (T := TX0) (N := 7) hx hb hts hin hown hK hP 0 rfl rfl 6 (by decide) (hts (.fieldLink RX0 30 "ReferredNames" "known" "I") (by decide +kernel)) (fun _ h9 => h9) rfl dX0_learnHand_1 ?_
  refine lv_sipush (v := nI 200) hx hb dX0_learnHand_4 (by decide) ?_
  refine lv_icmp_lt (tgt := 13) hx hb dX0_learnHand_7 (by decide) (fun c0 => ?_) (fun c0 => ?_)
  · rw [nI_ltI (by omega) (by omega)] at c0
    rw [rn_le_t c0] at hret
    refine lv_aload_n hx hb dX0_learnHand_13 rfl (lv_at hl 0 rfl) ?_
    refine va_get (D := D) (ci := 0) (v := .int (nI k)) (C := RX0) (T := TX0) (N := 7) hx hb hts hin hown hK hP 0 rfl rfl 6 (by decide) (hts (.fieldLink RX0 30 "ReferredNames" "known" "I") (by decide +kernel)) (fun _ h9 => h9) rfl dX0_learnHand_14 ?_
    refine lv_istore_n (lv' := [(1, .int (nI k)), (0, .ref h)]) hx hb dX0_learnHand_17 rfl hl (by decide) rfl (fun ls hl => ?_)
    refine lv_iconst (v := nI 0) hx hb dX0_learnHand_18 (by decide) ?_
    refine lv_istore_n (lv' := [(2, .int (nI 0)), (1, .int (nI k)), (0, .ref h)]) hx hb dX0_learnHand_19 rfl hl (by decide) rfl (fun ls hl => ?_)
    have loop : ∀ (f : Nat) (i : Nat) (H : Heap) (locs : List Loc) (ls : Array Slot), i + f = n → va_P D vwCl (wX h q cs fh n (va_cpy fh fb 0 (k * 60) i) fl fg fr k) H → va_D A (wX h q cs fh n (va_cpy fh fb 0 (k * 60) i) fl fg fr k) → va_S A s.heap H locs → lv_has ls 3 [(0, .ref h), (1, .int (nI k)), (2, .int (nI i))] → W p l e rmX0_learnHand s m args below meth c H locs 0 0 Q (F0 m 20 ls []) := by
      intro f
      induction f with
      | zero =>
        intro i H locs ls hi hP hD hS hl
        refine lv_iload_n hx hb dX0_learnHand_20 rfl (lv_at hl 2 rfl) ?_
        refine lv_aload_n hx hb dX0_learnHand_21 rfl (lv_at hl 0 rfl) ?_
        refine va_get (D := D) (ci := 0) (v := .int (nI n)) (C := RX0) (T := TX0) (N := 7) hx hb hts hin hown hK hP 0 rfl rfl 1 (by decide) (hts (.fieldLink RX0 13 "ReferredNames" "handLength" "I") (by decide +kernel)) (fun _ h9 => h9) rfl dX0_learnHand_22 ?_
        refine lv_icmp_ge (tgt := 51) hx hb dX0_learnHand_25 (by decide) (fun c1 => ?_) (fun c1 => ?_)
        · rw [nI_leI (by omega) (by omega)] at c1
          have ei : i = n := by omega
          rw [ei] at hP hD
          refine lv_aload_n hx hb dX0_learnHand_51 rfl (lv_at hl 0 rfl) ?_
          refine va_get (D := D) (ci := 0) (v := .ref (q 3)) (C := RX0) (T := TX0) (N := 7) hx hb hts hin hown hK hP 0 rfl rfl 3 (by decide) (hts (.fieldLink RX0 20 "ReferredNames" "lengths" "[I") (by decide +kernel)) (fun _ h9 => h9) rfl dX0_learnHand_52 ?_
          refine lv_iload_n hx hb dX0_learnHand_55 rfl (lv_at hl 1 rfl) ?_
          refine lv_aload_n hx hb dX0_learnHand_56 rfl (lv_at hl 0 rfl) ?_
          refine va_get (D := D) (ci := 0) (v := .int (nI n)) (C := RX0) (T := TX0) (N := 7) hx hb hts hin hown hK hP 0 rfl rfl 1 (by decide) (hts (.fieldLink RX0 13 "ReferredNames" "handLength" "I") (by decide +kernel)) (fun _ h9 => h9) rfl dX0_learnHand_57 ?_
          refine rb_ist hx hb hK hP hD hS 3 2 rfl rfl (i := k) (by omega) (by decide) dX0_learnHand_60 (fun H locs hP hD hS => ?_)
          have hP : va_P D vwCl (wX h q cs fh n (va_cpy fh fb 0 (k * 60) n) (upd fl k (nI n)) fg fr k) H := hP
          have hD : va_D A (wX h q cs fh n (va_cpy fh fb 0 (k * 60) n) (upd fl k (nI n)) fg fr k) := hD
          refine lv_aload_n hx hb dX0_learnHand_61 rfl (lv_at hl 0 rfl) ?_
          refine va_get (D := D) (ci := 0) (v := .ref (q 4)) (C := RX0) (T := TX0) (N := 7) hx hb hts hin hown hK hP 0 rfl rfl 4 (by decide) (hts (.fieldLink RX0 24 "ReferredNames" "givings" "[I") (by decide +kernel)) (fun _ h9 => h9) rfl dX0_learnHand_62 ?_
          refine lv_iload_n hx hb dX0_learnHand_65 rfl (lv_at hl 1 rfl) ?_
          refine lv_iconst (v := nI 0) hx hb dX0_learnHand_66 (by decide) ?_
          refine rb_ist hx hb hK hP hD hS 4 3 rfl rfl (i := k) (by omega) (by decide) dX0_learnHand_67 (fun H locs hP hD hS => ?_)
          have hP : va_P D vwCl (wX h q cs fh n (va_cpy fh fb 0 (k * 60) n) (upd fl k (nI n)) (upd fg k (nI 0)) fr k) H := hP
          have hD : va_D A (wX h q cs fh n (va_cpy fh fb 0 (k * 60) n) (upd fl k (nI n)) (upd fg k (nI 0)) fr k) := hD
          refine lv_aload_n hx hb dX0_learnHand_68 rfl (lv_at hl 0 rfl) ?_
          refine va_get (D := D) (ci := 0) (v := .ref (q 5)) (C := RX0) (T := TX0) (N := 7) hx hb hts hin hown hK hP 0 rfl rfl 5 (by decide) (hts (.fieldLink RX0 27 "ReferredNames" "referrals" "[I") (by decide +kernel)) (fun _ h9 => h9) rfl dX0_learnHand_69 ?_
          refine lv_iload_n hx hb dX0_learnHand_72 rfl (lv_at hl 1 rfl) ?_
          refine lv_iconst (v := nI 0) hx hb dX0_learnHand_73 (by decide) ?_
          refine rb_ist hx hb hK hP hD hS 5 4 rfl rfl (i := k) (by omega) (by decide) dX0_learnHand_74 (fun H locs hP hD hS => ?_)
          have hP : va_P D vwCl (wX h q cs fh n (va_cpy fh fb 0 (k * 60) n) (upd fl k (nI n)) (upd fg k (nI 0)) (upd fr k (nI 0)) k) H := hP
          have hD : va_D A (wX h q cs fh n (va_cpy fh fb 0 (k * 60) n) (upd fl k (nI n)) (upd fg k (nI 0)) (upd fr k (nI 0)) k) := hD
          refine lv_aload_n hx hb dX0_learnHand_75 rfl (lv_at hl 0 rfl) ?_
          refine lv_dup hx hb dX0_learnHand_76 rfl ?_
          refine va_get (D := D) (ci := 0) (v := .int (nI k)) (C := RX0) (T := TX0) (N := 7) hx hb hts hin hown hK hP 0 rfl rfl 6 (by decide) (hts (.fieldLink RX0 30 "ReferredNames" "known" "I") (by decide +kernel)) (fun _ h9 => h9) rfl dX0_learnHand_77 ?_
          refine lv_iconst (v := nI 1) hx hb dX0_learnHand_80 (by decide) ?_
          refine lv_iadd hx hb dX0_learnHand_81 ?_
          refine rb_top (y := nI (k + 1)) (nI_add k 1) ?_
          refine va_put (D := D) (ci := 0) (v := .int (nI (k + 1))) (ty := .int) (C := RX0) (T := TX0) (N := 7) hx hb hts hin tyX0 tyX0_ok nmX0 hown hK hP hD hS 0 rfl rfl 6 (by decide) (hts (.fieldLink RX0 30 "ReferredNames" "known" "I") (by decide +kernel)) (fun _ h9 => h9) rfl (by decide +kernel) rfl rfl (Nat.le_of_ble_eq_true rfl) dX0_learnHand_82 (fun H locs hP hD hS => ?_)
          have hP : va_P D vwCl (wX h q cs fh n (va_cpy fh fb 0 (k * 60) n) (upd fl k (nI n)) (upd fg k (nI 0)) (upd fr k (nI 0)) (k + 1)) H := hP
          have hD : va_D A (wX h q cs fh n (va_cpy fh fb 0 (k * 60) n) (upd fl k (nI n)) (upd fg k (nI 0)) (upd fr k (nI 0)) (k + 1)) := hD
          refine lv_iload_n hx hb dX0_learnHand_85 rfl (lv_at hl 1 rfl) ?_
          refine rb_top (y := nI k) rfl ?_
          exact hret _ _ _ _ dX0_learnHand_86 hP hD hS
        · rw [nI_leI (by omega) (by omega)] at c1
          exfalso; omega
      | succ f ih =>
        intro i H locs ls hi hP hD hS hl
        refine lv_iload_n hx hb dX0_learnHand_20 rfl (lv_at hl 2 rfl) ?_
        refine lv_aload_n hx hb dX0_learnHand_21 rfl (lv_at hl 0 rfl) ?_
        refine va_get (D := D) (ci := 0) (v := .int (nI n)) (C := RX0) (T := TX0) (N := 7) hx hb hts hin hown hK hP 0 rfl rfl 1 (by decide) (hts (.fieldLink RX0 13 "ReferredNames" "handLength" "I") (by decide +kernel)) (fun _ h9 => h9) rfl dX0_learnHand_22 ?_
        refine lv_icmp_ge (tgt := 51) hx hb dX0_learnHand_25 (by decide) (fun c1 => ?_) (fun c1 => ?_)
        · rw [nI_leI (by omega) (by omega)] at c1
          exfalso; omega
        · rw [nI_leI (by omega) (by omega)] at c1
          refine lv_aload_n hx hb dX0_learnHand_28 rfl (lv_at hl 0 rfl) ?_
          refine va_get (D := D) (ci := 0) (v := .ref (q 2)) (C := RX0) (T := TX0) (N := 7) hx hb hts hin hown hK hP 0 rfl rfl 2 (by decide) (hts (.fieldLink RX0 17 "ReferredNames" "bytes" "[B") (by decide +kernel)) (fun _ h9 => h9) rfl dX0_learnHand_29 ?_
          refine lv_iload_n hx hb dX0_learnHand_32 rfl (lv_at hl 1 rfl) ?_
          refine lv_bipush (v := nI 60) hx hb dX0_learnHand_33 (by decide) ?_
          refine lv_imul hx hb dX0_learnHand_35 ?_
          refine rb_top (y := nI (k * 60)) (pk_mul k 60) ?_
          refine lv_iload_n hx hb dX0_learnHand_36 rfl (lv_at hl 2 rfl) ?_
          refine lv_iadd hx hb dX0_learnHand_37 ?_
          refine rb_top (y := nI ((k * 60) + i)) (nI_add (k * 60) i) ?_
          refine lv_aload_n hx hb dX0_learnHand_38 rfl (lv_at hl 0 rfl) ?_
          refine va_get (D := D) (ci := 0) (v := .ref (q 1)) (C := RX0) (T := TX0) (N := 7) hx hb hts hin hown hK hP 0 rfl rfl 0 (by decide) (hts (.fieldLink RX0 9 "ReferredNames" "hand" "[B") (by decide +kernel)) (fun _ h9 => h9) rfl dX0_learnHand_39 ?_
          refine lv_iload_n hx hb dX0_learnHand_42 rfl (lv_at hl 2 rfl) ?_
          refine rb_bld hx hb hK hP 1 0 rfl rfl (i := i) (by omega) (by decide) dX0_learnHand_43 ?_
          refine rb_bst hx hb hK hP hD hS 2 1 rfl rfl (i := (k * 60) + i) (by omega) (by decide) (hby i) dX0_learnHand_44 (fun H locs hP hD hS => ?_)
          have hP : va_P D vwCl (wX h q cs fh n (upd (va_cpy fh fb 0 (k * 60) i) ((k * 60) + i) (fh i)) fl fg fr k) H := hP
          have hD : va_D A (wX h q cs fh n (upd (va_cpy fh fb 0 (k * 60) i) ((k * 60) + i) (fh i)) fl fg fr k) := hD
          refine lv_iinc (v := nI (i + 1)) (lv' := [(2, .int (nI (i + 1))), (0, .ref h), (1, .int (nI k))]) hx hb dX0_learnHand_45 hl (k := 2) rfl (nI_1 i) (by decide) rfl (fun ls hl => ?_)
          refine lv_goto (tgt := 20) hx hb dX0_learnHand_48 (by decide) ?_
          rw [rn_cpy_s] at hP hD
          exact ih (i + 1) H locs ls (by omega) hP hD hS (lv_sub hl [1, 2, 0] rfl)
    exact loop n 0 _ _ ls (by omega) (by rw [rn_cpy_0]; exact hP) (by rw [rn_cpy_0]; exact hD) hS (lv_sub hl [2, 1, 0] rfl)
  · rw [nI_ltI (by omega) (by omega)] at c0
    rw [rn_le_f c0] at hret
    refine lv_bipush (v := (-2)) hx hb dX0_learnHand_10 (by decide) ?_
    refine rb_top (y := (-2)) rfl ?_
    exact hret _ _ _ _ dX0_learnHand_12 hP hD hS
abbrev rmX0_takeHand : Room := { frames := 2, cells := 0, slots := 0, locals := 43 }
set_option maxHeartbeats 4000000 in
set_option maxRecDepth 100000 in
theorem kX0_takeHand (l : Launch) (D : va_G) (h : Nat) (q : Nat → Nat) (cs : Nat → ClassId) (fh : Nat → Int32) (n : Nat) (fb fl fg fr : Nat → Int32) (k : Nat) (hn : n ≤ 60) (hk : k ≤ 200) (sz : Nat) (hby : ∀ i, (fh i).toInt8.toInt32 = fh i) : Met l yX0_takeHand wsX0_takeHand rmX0_takeHand (wr_P D vwCl (tX cs) [.ref h] (wX h q cs fh n fb fl fg fr k) sz) (wr_Q D vwCl (tX cs) (wX h q cs fh n fb fl fg fr k) (wS h q cs (rn_tk fh n fb fl fg fr k).2) sz ((rn_tk fh n fb fl fg fr k).1)) 0 0 (va_A (wX h q cs fh n fb fl fg fr k) sz) := by
  refine wr_of (cc := cX0_takeHand) (maxL := 2) (ty := .int) (by decide) rfl rfl (Nat.le_of_ble_eq_true rfl) ?_
  intro p e s m args below meth c ls Q A hx hb hml hown hts hK hA hP hD hS hl hret
  have hown : s.vm.findClass RX0 = some m.cls := hown
  have hin : ∀ w ∈ wsX00, w ∈ wsX0_takeHand := by decide +kernel
  have hl : lv_has ls 2 [(0, .ref h)] := hl
  rcases rn_tk_c (fh := fh) (n := n) (fb := fb) (fl := fl) (fg := fg) (fr := fr) hk with ⟨j, hj, e1, e2⟩ | ⟨e1, hlt, e2⟩ | ⟨e1, hlt, e2⟩
  · rw [e2] at hret
    refine lv_aload_n hx hb dX0_takeHand_0 rfl (lv_at hl 0 rfl) ?_
    refine rd_call (ci := 0) (b := h) (As := []) (rest := []) ⟨hx, hb, hml, hown, hts⟩ (kX0_find l D h q cs fh n fb fl fg fr k (by omega) (by omega)) (cwV 0 hts gX0_takeHand_X0_find rfl rfl rfl (by decide +kernel) ⟨Nat.le_of_ble_eq_true rfl, Nat.le_of_ble_eq_true rfl⟩) hK hP rfl rfl rfl rfl hl.1 rfl (Nat.le_of_ble_eq_true rfl) dX0_takeHand_1 ⟨Nat.zero_le _, Nat.zero_le _⟩ ?_
    refine rb_top (y := nI j) e1 ?_
    refine lv_istore_n (lv' := [(1, .int (nI j)), (0, .ref h)]) hx hb dX0_takeHand_4 rfl hl (by decide) rfl (fun ls hl => ?_)
    refine lv_iload_n hx hb dX0_takeHand_5 rfl (lv_at hl 0 rfl) ?_
    refine lv_iconst (v := (-1)) hx hb dX0_takeHand_6 (by decide) ?_
    refine lv_icmp_ne (tgt := 15) hx hb dX0_takeHand_7 (by decide) (fun c0 => ?_) (fun c0 => ?_)
    · refine lv_aload_n hx hb dX0_takeHand_15 rfl (lv_at hl 1 rfl) ?_
      refine lv_iconst (v := nI 0) hx hb dX0_takeHand_16 (by decide) ?_
      refine va_put (D := D) (ci := 0) (v := .int (nI 0)) (ty := .int) (C := RX0) (T := TX0) (N := 7) hx hb hts hin tyX0 tyX0_ok nmX0 hown hK hP hD hS 0 rfl rfl 1 (by decide) (hts (.fieldLink RX0 13 "ReferredNames" "handLength" "I") (by decide +kernel)) (fun _ h9 => h9) rfl (by decide +kernel) rfl rfl (Nat.le_of_ble_eq_true rfl) dX0_takeHand_17 (fun H locs hP hD hS => ?_)
      have hP : va_P D vwCl (wX h q cs fh 0 fb fl fg fr k) H := hP
      have hD : va_D A (wX h q cs fh 0 fb fl fg fr k) := hD
      refine lv_iload_n hx hb dX0_takeHand_20 rfl (lv_at hl 0 rfl) ?_
      refine rb_top (y := nI j) rfl ?_
      exact hret _ _ _ _ dX0_takeHand_21 hP hD hS
    · exact absurd c0 (rn_m1 (by omega))
  · rw [e2] at hret
    refine lv_aload_n hx hb dX0_takeHand_0 rfl (lv_at hl 0 rfl) ?_
    refine rd_call (ci := 0) (b := h) (As := []) (rest := []) ⟨hx, hb, hml, hown, hts⟩ (kX0_find l D h q cs fh n fb fl fg fr k (by omega) (by omega)) (cwV 0 hts gX0_takeHand_X0_find rfl rfl rfl (by decide +kernel) ⟨Nat.le_of_ble_eq_true rfl, Nat.le_of_ble_eq_true rfl⟩) hK hP rfl rfl rfl rfl hl.1 rfl (Nat.le_of_ble_eq_true rfl) dX0_takeHand_1 ⟨Nat.zero_le _, Nat.zero_le _⟩ ?_
    refine rb_top (y := (-1)) e1 ?_
    refine lv_istore_n (lv' := [(1, .int ((-1))), (0, .ref h)]) hx hb dX0_takeHand_4 rfl hl (by decide) rfl (fun ls hl => ?_)
    refine lv_iload_n hx hb dX0_takeHand_5 rfl (lv_at hl 0 rfl) ?_
    refine lv_iconst (v := (-1)) hx hb dX0_takeHand_6 (by decide) ?_
    refine lv_icmp_ne (tgt := 15) hx hb dX0_takeHand_7 (by decide) (fun c0 => ?_) (fun c0 => ?_)
    · exact absurd rfl c0
    · refine lv_aload_n hx hb dX0_takeHand_10 rfl (lv_at hl 1 rfl) ?_
      have c9 := kX0_learnHand l D h q cs fh n fb fl fg fr k (by omega) (by omega) s.heap.size hby
      rw [rn_le_t hlt] at c9
      refine wr_call (ci := 0) (b := h) (As := []) (rest := []) (wr := []) ⟨hx, hb, hml, hown, hts⟩ (c9) (cwV 0 hts gX0_takeHand_X0_learnHand rfl rfl rfl (by decide +kernel) ⟨Nat.le_of_ble_eq_true rfl, Nat.le_of_ble_eq_true rfl⟩) hK hP hD hS hA [0, 1, 2, 3, 4, 5] [] rfl rfl (by decide) (by decide) (by decide) rfl rfl rfl rfl hl.1 rfl (Nat.le_of_ble_eq_true rfl) dX0_takeHand_11 ⟨Nat.le_of_ble_eq_true rfl, Nat.le_of_ble_eq_true rfl⟩ (fun H locs hP hD hS => ?_)
      have hP : va_P D vwCl (wX h q cs fh n (va_cpy fh fb 0 (k * 60) n) (upd fl k (nI n)) (upd fg k (nI 0)) (upd fr k (nI 0)) (k + 1)) H := hP
      have hD : va_D A (wX h q cs fh n (va_cpy fh fb 0 (k * 60) n) (upd fl k (nI n)) (upd fg k (nI 0)) (upd fr k (nI 0)) (k + 1)) := hD
      refine rb_top (y := nI k) rfl ?_
      refine lv_istore_n (lv' := [(1, .int (nI k)), (0, .ref h)]) hx hb dX0_takeHand_14 rfl hl (by decide) rfl (fun ls hl => ?_)
      refine lv_aload_n hx hb dX0_takeHand_15 rfl (lv_at hl 1 rfl) ?_
      refine lv_iconst (v := nI 0) hx hb dX0_takeHand_16 (by decide) ?_
      refine va_put (D := D) (ci := 0) (v := .int (nI 0)) (ty := .int) (C := RX0) (T := TX0) (N := 7) hx hb hts hin tyX0 tyX0_ok nmX0 hown hK hP hD hS 0 rfl rfl 1 (by decide) (hts (.fieldLink RX0 13 "ReferredNames" "handLength" "I") (by decide +kernel)) (fun _ h9 => h9) rfl (by decide +kernel) rfl rfl (Nat.le_of_ble_eq_true rfl) dX0_takeHand_17 (fun H locs hP hD hS => ?_)
      have hP : va_P D vwCl (wX h q cs fh 0 (va_cpy fh fb 0 (k * 60) n) (upd fl k (nI n)) (upd fg k (nI 0)) (upd fr k (nI 0)) (k + 1)) H := hP
      have hD : va_D A (wX h q cs fh 0 (va_cpy fh fb 0 (k * 60) n) (upd fl k (nI n)) (upd fg k (nI 0)) (upd fr k (nI 0)) (k + 1)) := hD
      refine lv_iload_n hx hb dX0_takeHand_20 rfl (lv_at hl 0 rfl) ?_
      refine rb_top (y := nI k) rfl ?_
      exact hret _ _ _ _ dX0_takeHand_21 hP hD hS
  · rw [e2] at hret
    refine lv_aload_n hx hb dX0_takeHand_0 rfl (lv_at hl 0 rfl) ?_
    refine rd_call (ci := 0) (b := h) (As := []) (rest := []) ⟨hx, hb, hml, hown, hts⟩ (kX0_find l D h q cs fh n fb fl fg fr k (by omega) (by omega)) (cwV 0 hts gX0_takeHand_X0_find rfl rfl rfl (by decide +kernel) ⟨Nat.le_of_ble_eq_true rfl, Nat.le_of_ble_eq_true rfl⟩) hK hP rfl rfl rfl rfl hl.1 rfl (Nat.le_of_ble_eq_true rfl) dX0_takeHand_1 ⟨Nat.zero_le _, Nat.zero_le _⟩ ?_
    refine rb_top (y := (-1)) e1 ?_
    refine lv_istore_n (lv' := [(1, .int ((-1))), (0, .ref h)]) hx hb dX0_takeHand_4 rfl hl (by decide) rfl (fun ls hl => ?_)
    refine lv_iload_n hx hb dX0_takeHand_5 rfl (lv_at hl 0 rfl) ?_
    refine lv_iconst (v := (-1)) hx hb dX0_takeHand_6 (by decide) ?_
    refine lv_icmp_ne (tgt := 15) hx hb dX0_takeHand_7 (by decide) (fun c0 => ?_) (fun c0 => ?_)
    · exact absurd rfl c0
    · refine lv_aload_n hx hb dX0_takeHand_10 rfl (lv_at hl 1 rfl) ?_
      have c9 := kX0_learnHand l D h q cs fh n fb fl fg fr k (by omega) (by omega) s.heap.size hby
      rw [rn_le_f hlt] at c9
      refine wr_call (ci := 0) (b := h) (As := []) (rest := []) (wr := []) ⟨hx, hb, hml, hown, hts⟩ (c9) (cwV 0 hts gX0_takeHand_X0_learnHand rfl rfl rfl (by decide +kernel) ⟨Nat.le_of_ble_eq_true rfl, Nat.le_of_ble_eq_true rfl⟩) hK hP hD hS hA [0, 1, 2, 3, 4, 5] [] rfl rfl (by decide) (by decide) (by decide) rfl rfl rfl rfl hl.1 rfl (Nat.le_of_ble_eq_true rfl) dX0_takeHand_11 ⟨Nat.le_of_ble_eq_true rfl, Nat.le_of_ble_eq_true rfl⟩ (fun H locs hP hD hS => ?_)
      have hP : va_P D vwCl (wX h q cs fh n fb fl fg fr k) H := hP
      have hD : va_D A (wX h q cs fh n fb fl fg fr k) := hD
      refine rb_top (y := (-2)) rfl ?_
      refine lv_istore_n (lv' := [(1, .int ((-2))), (0, .ref h)]) hx hb dX0_takeHand_14 rfl hl (by decide) rfl (fun ls hl => ?_)
      refine lv_aload_n hx hb dX0_takeHand_15 rfl (lv_at hl 1 rfl) ?_
      refine lv_iconst (v := nI 0) hx hb dX0_takeHand_16 (by decide) ?_
      refine va_put (D := D) (ci := 0) (v := .int (nI 0)) (ty := .int) (C := RX0) (T := TX0) (N := 7) hx hb hts hin tyX0 tyX0_ok nmX0 hown hK hP hD hS 0 rfl rfl 1 (by decide) (hts (.fieldLink RX0 13 "ReferredNames" "handLength" "I") (by decide +kernel)) (fun _ h9 => h9) rfl (by decide +kernel) rfl rfl (Nat.le_of_ble_eq_true rfl) dX0_takeHand_17 (fun H locs hP hD hS => ?_)
      have hP : va_P D vwCl (wX h q cs fh 0 fb fl fg fr k) H := hP
      have hD : va_D A (wX h q cs fh 0 fb fl fg fr k) := hD
      refine lv_iload_n hx hb dX0_takeHand_20 rfl (lv_at hl 0 rfl) ?_
      refine rb_top (y := (-2)) rfl ?_
      exact hret _ _ _ _ dX0_takeHand_21 hP hD hS
abbrev rmX0_give : Room := { frames := 3, cells := 0, slots := 0, locals := 64 }
set_option maxHeartbeats 4000000 in
set_option maxRecDepth 100000 in
theorem kX0_give (l : Launch) (D : va_G) (h : Nat) (q : Nat → Nat) (cs : Nat → ClassId) (fh : Nat → Int32) (n : Nat) (fb fl fg fr : Nat → Int32) (k : Nat) (hn : n ≤ 60) (hk : k ≤ 200) (sz : Nat) (hby : ∀ i, (fh i).toInt8.toInt32 = fh i) : Met l yX0_give wsX0_give rmX0_give (wr_P D vwCl (tX cs) [.ref h] (wX h q cs fh n fb fl fg fr k) sz) (wr_Q D vwCl (tX cs) (wX h q cs fh n fb fl fg fr k) (wS h q cs (rn_gv fh n fb fl fg fr k).2) sz ((rn_gv fh n fb fl fg fr k).1)) 0 0 (va_A (wX h q cs fh n fb fl fg fr k) sz) := by
  refine wr_of (cc := cX0_give) (maxL := 3) (ty := .int) (by decide) rfl rfl (Nat.le_of_ble_eq_true rfl) ?_
  intro p e s m args below meth c ls Q A hx hb hml hown hts hK hA hP hD hS hl hret
  have hown : s.vm.findClass RX0 = some m.cls := hown
  have hin : ∀ w ∈ wsX00, w ∈ wsX0_give := by decide +kernel
  have hl : lv_has ls 3 [(0, .ref h)] := hl
  refine lv_aload_n hx hb dX0_give_0 rfl (lv_at hl 0 rfl) ?_
  refine va_get (D := D) (ci := 0) (v := .int (nI n)) (C := RX0) (T := TX0) (N := 7) hx hb hts hin hown hK hP 0 rfl rfl 1 (by decide) (hts (.fieldLink RX0 13 "ReferredNames" "handLength" "I") (by decide +kernel)) (fun _ h9 => h9) rfl dX0_give_1 ?_
  refine lv_if_ne (tgt := 10) hx hb dX0_give_4 (by decide) (fun c0 => ?_) (fun c0 => ?_)
  · rw [show (0 : Int32) = nI 0 from rfl] at c0
    rw [nI_eq (by omega) (by omega)] at c0
    rw [rn_gv_p c0] at hret
    rcases rn_tk_c (fh := fh) (n := n) (fb := fb) (fl := fl) (fg := fg) (fr := fr) hk with ⟨j, hj, e1, e2⟩ | ⟨e1, hlt, e2⟩ | ⟨e1, hlt, e2⟩
    · rw [e2, rn_gs_j (by omega)] at hret
      refine lv_aload_n hx hb dX0_give_10 rfl (lv_at hl 0 rfl) ?_
      have c9 := kX0_takeHand l D h q cs fh n fb fl fg fr k (by omega) (by omega) s.heap.size hby
      rw [e2] at c9
      refine wr_call (ci := 0) (b := h) (As := []) (rest := []) (wr := []) ⟨hx, hb, hml, hown, hts⟩ (c9) (cwV 0 hts gX0_give_X0_takeHand rfl rfl rfl (by decide +kernel) ⟨Nat.le_of_ble_eq_true rfl, Nat.le_of_ble_eq_true rfl⟩) hK hP hD hS hA [0, 1, 2, 3, 4, 5] [] rfl rfl (by decide) (by decide) (by decide) rfl rfl rfl rfl hl.1 rfl (Nat.le_of_ble_eq_true rfl) dX0_give_11 ⟨Nat.le_of_ble_eq_true rfl, Nat.le_of_ble_eq_true rfl⟩ (fun H locs hP hD hS => ?_)
      have hP : va_P D vwCl (wX h q cs fh 0 fb fl fg fr k) H := hP
      have hD : va_D A (wX h q cs fh 0 fb fl fg fr k) := hD
      refine rb_top (y := nI j) rfl ?_
      refine lv_istore_n (lv' := [(1, .int (nI j)), (0, .ref h)]) hx hb dX0_give_14 rfl hl (by decide) rfl (fun ls hl => ?_)
      refine lv_iload_n hx hb dX0_give_15 rfl (lv_at hl 0 rfl) ?_
      refine lv_if_ge (tgt := 21) hx hb dX0_give_16 (by decide) (fun c1 => ?_) (fun c1 => ?_)
      · rw [show (0 : Int32) = nI 0 from rfl] at c1
        rw [nI_leI (by omega) (by omega)] at c1
        refine lv_aload_n hx hb dX0_give_21 rfl (lv_at hl 1 rfl) ?_
        refine lv_iload_n hx hb dX0_give_22 rfl (lv_at hl 0 rfl) ?_
        refine rd_call (ci := 0) (b := h) (As := [.int (nI j)]) (rest := []) ⟨hx, hb, hml, hown, hts⟩ (kX0_isGiven l D h q cs fh 0 fb fl fg fr k (by omega) (by omega) j (by omega)) (cwV 1 hts gX0_give_X0_isGiven rfl rfl rfl (by decide +kernel) ⟨Nat.le_of_ble_eq_true rfl, Nat.le_of_ble_eq_true rfl⟩) hK hP rfl rfl rfl rfl hl.1 rfl (Nat.le_of_ble_eq_true rfl) dX0_give_23 ⟨Nat.zero_le _, Nat.zero_le _⟩ ?_
        refine lv_istore_n (lv' := [(2, .int (rn_b (rn_gi fg j))), (1, .int (nI j)), (0, .ref h)]) hx hb dX0_give_26 rfl hl (by decide) rfl (fun ls hl => ?_)
        refine lv_aload_n hx hb dX0_give_27 rfl (lv_at hl 2 rfl) ?_
        refine va_get (D := D) (ci := 0) (v := .ref (q 4)) (C := RX0) (T := TX0) (N := 7) hx hb hts hin hown hK hP 0 rfl rfl 4 (by decide) (hts (.fieldLink RX0 24 "ReferredNames" "givings" "[I") (by decide +kernel)) (fun _ h9 => h9) rfl dX0_give_28 ?_
        refine lv_iload_n hx hb dX0_give_31 rfl (lv_at hl 1 rfl) ?_
        refine lv_dup2_11 hx hb dX0_give_32 rfl rfl ?_
        refine rb_ild hx hb hK hP 4 3 rfl rfl (i := j) (by omega) (by decide) dX0_give_33 ?_
        refine lv_iconst (v := nI 1) hx hb dX0_give_34 (by decide) ?_
        refine lv_iadd hx hb dX0_give_35 ?_
        refine rb_ist hx hb hK hP hD hS 4 3 rfl rfl (i := j) (by omega) (by decide) dX0_give_36 (fun H locs hP hD hS => ?_)
        have hP : va_P D vwCl (wX h q cs fh 0 fb fl (upd fg j ((fg j) + (nI 1))) fr k) H := hP
        have hD : va_D A (wX h q cs fh 0 fb fl (upd fg j ((fg j) + (nI 1))) fr k) := hD
        refine lv_iload_n hx hb dX0_give_37 rfl (lv_at hl 0 rfl) ?_
        refine lv_if_eq (tgt := 45) hx hb dX0_give_38 (by decide) (fun c2 => ?_) (fun c2 => ?_)
        · refine lv_iload_n hx hb dX0_give_45 rfl (lv_at hl 1 rfl) ?_
          refine rb_top (y := (if rn_gi fg j = true then -1 else nI j)) ((if_neg (by rw [rn_b_eq c2]; decide)).symm) ?_
          exact hret _ _ _ _ dX0_give_46 hP hD hS
        · refine lv_iconst (v := (-1)) hx hb dX0_give_41 (by decide) ?_
          refine lv_goto (tgt := 46) hx hb dX0_give_42 (by decide) ?_
          refine rb_top (y := (if rn_gi fg j = true then -1 else nI j)) ((if_pos (rn_b_ne c2)).symm) ?_
          exact hret _ _ _ _ dX0_give_46 hP hD hS
      · rw [show (0 : Int32) = nI 0 from rfl] at c1
        rw [nI_leI (by omega) (by omega)] at c1
        exfalso; omega
    · rw [e2, rn_gs_j (by omega)] at hret
      refine lv_aload_n hx hb dX0_give_10 rfl (lv_at hl 0 rfl) ?_
      have c9 := kX0_takeHand l D h q cs fh n fb fl fg fr k (by omega) (by omega) s.heap.size hby
      rw [e2] at c9
      refine wr_call (ci := 0) (b := h) (As := []) (rest := []) (wr := []) ⟨hx, hb, hml, hown, hts⟩ (c9) (cwV 0 hts gX0_give_X0_takeHand rfl rfl rfl (by decide +kernel) ⟨Nat.le_of_ble_eq_true rfl, Nat.le_of_ble_eq_true rfl⟩) hK hP hD hS hA [0, 1, 2, 3, 4, 5] [] rfl rfl (by decide) (by decide) (by decide) rfl rfl rfl rfl hl.1 rfl (Nat.le_of_ble_eq_true rfl) dX0_give_11 ⟨Nat.le_of_ble_eq_true rfl, Nat.le_of_ble_eq_true rfl⟩ (fun H locs hP hD hS => ?_)
      have hP : va_P D vwCl (wX h q cs fh 0 (va_cpy fh fb 0 (k * 60) n) (upd fl k (nI n)) (upd fg k (nI 0)) (upd fr k (nI 0)) (k + 1)) H := hP
      have hD : va_D A (wX h q cs fh 0 (va_cpy fh fb 0 (k * 60) n) (upd fl k (nI n)) (upd fg k (nI 0)) (upd fr k (nI 0)) (k + 1)) := hD
      refine rb_top (y := nI k) rfl ?_
      refine lv_istore_n (lv' := [(1, .int (nI k)), (0, .ref h)]) hx hb dX0_give_14 rfl hl (by decide) rfl (fun ls hl => ?_)
      refine lv_iload_n hx hb dX0_give_15 rfl (lv_at hl 0 rfl) ?_
      refine lv_if_ge (tgt := 21) hx hb dX0_give_16 (by decide) (fun c1 => ?_) (fun c1 => ?_)
      · rw [show (0 : Int32) = nI 0 from rfl] at c1
        rw [nI_leI (by omega) (by omega)] at c1
        refine lv_aload_n hx hb dX0_give_21 rfl (lv_at hl 1 rfl) ?_
        refine lv_iload_n hx hb dX0_give_22 rfl (lv_at hl 0 rfl) ?_
        refine rd_call (ci := 0) (b := h) (As := [.int (nI k)]) (rest := []) ⟨hx, hb, hml, hown, hts⟩ (kX0_isGiven l D h q cs fh 0 (va_cpy fh fb 0 (k * 60) n) (upd fl k (nI n)) (upd fg k (nI 0)) (upd fr k (nI 0)) (k + 1) (by omega) (by omega) k (by omega)) (cwV 1 hts gX0_give_X0_isGiven rfl rfl rfl (by decide +kernel) ⟨Nat.le_of_ble_eq_true rfl, Nat.le_of_ble_eq_true rfl⟩) hK hP rfl rfl rfl rfl hl.1 rfl (Nat.le_of_ble_eq_true rfl) dX0_give_23 ⟨Nat.zero_le _, Nat.zero_le _⟩ ?_
        refine lv_istore_n (lv' := [(2, .int (rn_b (rn_gi (upd fg k (nI 0)) k))), (1, .int (nI k)), (0, .ref h)]) hx hb dX0_give_26 rfl hl (by decide) rfl (fun ls hl => ?_)
        refine lv_aload_n hx hb dX0_give_27 rfl (lv_at hl 2 rfl) ?_
        refine va_get (D := D) (ci := 0) (v := .ref (q 4)) (C := RX0) (T := TX0) (N := 7) hx hb hts hin hown hK hP 0 rfl rfl 4 (by decide) (hts (.fieldLink RX0 24 "ReferredNames" "givings" "[I") (by decide +kernel)) (fun _ h9 => h9) rfl dX0_give_28 ?_
        refine lv_iload_n hx hb dX0_give_31 rfl (lv_at hl 1 rfl) ?_
        refine lv_dup2_11 hx hb dX0_give_32 rfl rfl ?_
        refine rb_ild hx hb hK hP 4 3 rfl rfl (i := k) (by omega) (by decide) dX0_give_33 ?_
        refine lv_iconst (v := nI 1) hx hb dX0_give_34 (by decide) ?_
        refine lv_iadd hx hb dX0_give_35 ?_
        refine rb_ist hx hb hK hP hD hS 4 3 rfl rfl (i := k) (by omega) (by decide) dX0_give_36 (fun H locs hP hD hS => ?_)
        have hP : va_P D vwCl (wX h q cs fh 0 (va_cpy fh fb 0 (k * 60) n) (upd fl k (nI n)) (upd (upd fg k (nI 0)) k (((upd fg k (nI 0)) k) + (nI 1))) (upd fr k (nI 0)) (k + 1)) H := hP
        have hD : va_D A (wX h q cs fh 0 (va_cpy fh fb 0 (k * 60) n) (upd fl k (nI n)) (upd (upd fg k (nI 0)) k (((upd fg k (nI 0)) k) + (nI 1))) (upd fr k (nI 0)) (k + 1)) := hD
        refine lv_iload_n hx hb dX0_give_37 rfl (lv_at hl 0 rfl) ?_
        refine lv_if_eq (tgt := 45) hx hb dX0_give_38 (by decide) (fun c2 => ?_) (fun c2 => ?_)
        · refine lv_iload_n hx hb dX0_give_45 rfl (lv_at hl 1 rfl) ?_
          refine rb_top (y := (if rn_gi (upd fg k (nI 0)) k = true then -1 else nI k)) ((if_neg (by rw [rn_b_eq c2]; decide)).symm) ?_
          exact hret _ _ _ _ dX0_give_46 hP hD hS
        · refine lv_iconst (v := (-1)) hx hb dX0_give_41 (by decide) ?_
          refine lv_goto (tgt := 46) hx hb dX0_give_42 (by decide) ?_
          refine rb_top (y := (if rn_gi (upd fg k (nI 0)) k = true then -1 else nI k)) ((if_pos (rn_b_ne c2)).symm) ?_
          exact hret _ _ _ _ dX0_give_46 hP hD hS
      · rw [show (0 : Int32) = nI 0 from rfl] at c1
        rw [nI_leI (by omega) (by omega)] at c1
        exfalso; omega
    · rw [e2, rn_gs_n] at hret
      refine lv_aload_n hx hb dX0_give_10 rfl (lv_at hl 0 rfl) ?_
      have c9 := kX0_takeHand l D h q cs fh n fb fl fg fr k (by omega) (by omega) s.heap.size hby
      rw [e2] at c9
      refine wr_call (ci := 0) (b := h) (As := []) (rest := []) (wr := []) ⟨hx, hb, hml, hown, hts⟩ (c9) (cwV 0 hts gX0_give_X0_takeHand rfl rfl rfl (by decide +kernel) ⟨Nat.le_of_ble_eq_true rfl, Nat.le_of_ble_eq_true rfl⟩) hK hP hD hS hA [0, 1, 2, 3, 4, 5] [] rfl rfl (by decide) (by decide) (by decide) rfl rfl rfl rfl hl.1 rfl (Nat.le_of_ble_eq_true rfl) dX0_give_11 ⟨Nat.le_of_ble_eq_true rfl, Nat.le_of_ble_eq_true rfl⟩ (fun H locs hP hD hS => ?_)
      have hP : va_P D vwCl (wX h q cs fh 0 fb fl fg fr k) H := hP
      have hD : va_D A (wX h q cs fh 0 fb fl fg fr k) := hD
      refine rb_top (y := (-2)) rfl ?_
      refine lv_istore_n (lv' := [(1, .int ((-2))), (0, .ref h)]) hx hb dX0_give_14 rfl hl (by decide) rfl (fun ls hl => ?_)
      refine lv_iload_n hx hb dX0_give_15 rfl (lv_at hl 0 rfl) ?_
      refine lv_if_ge (tgt := 21) hx hb dX0_give_16 (by decide) (fun c1 => ?_) (fun c1 => ?_)
      · exact absurd c1 (by decide)
      · refine lv_iload_n hx hb dX0_give_19 rfl (lv_at hl 0 rfl) ?_
        refine rb_top (y := (-2)) rfl ?_
        exact hret _ _ _ _ dX0_give_20 hP hD hS
  · rw [show (0 : Int32) = nI 0 from rfl] at c0
    rw [nI_eq (by omega) (by omega)] at c0
    rw [rn_gv_0 c0] at hret
    refine lv_bipush (v := (-3)) hx hb dX0_give_7 (by decide) ?_
    refine rb_top (y := (-3)) rfl ?_
    exact hret _ _ _ _ dX0_give_9 hP hD hS
abbrev rmX0_refer : Room := { frames := 3, cells := 0, slots := 0, locals := 64 }
set_option maxHeartbeats 4000000 in
set_option maxRecDepth 100000 in
theorem kX0_refer (l : Launch) (D : va_G) (h : Nat) (q : Nat → Nat) (cs : Nat → ClassId) (fh : Nat → Int32) (n : Nat) (fb fl fg fr : Nat → Int32) (k : Nat) (hn : n ≤ 60) (hk : k ≤ 200) (sz : Nat) (hby : ∀ i, (fh i).toInt8.toInt32 = fh i) : Met l yX0_refer wsX0_refer rmX0_refer (wr_P D vwCl (tX cs) [.ref h] (wX h q cs fh n fb fl fg fr k) sz) (wr_Q D vwCl (tX cs) (wX h q cs fh n fb fl fg fr k) (wS h q cs (rn_rf fh n fb fl fg fr k).2) sz ((rn_rf fh n fb fl fg fr k).1)) 0 0 (va_A (wX h q cs fh n fb fl fg fr k) sz) := by
  refine wr_of (cc := cX0_refer) (maxL := 2) (ty := .int) (by decide) rfl rfl (Nat.le_of_ble_eq_true rfl) ?_
  intro p e s m args below meth c ls Q A hx hb hml hown hts hK hA hP hD hS hl hret
  have hown : s.vm.findClass RX0 = some m.cls := hown
  have hin : ∀ w ∈ wsX00, w ∈ wsX0_refer := by decide +kernel
  have hl : lv_has ls 2 [(0, .ref h)] := hl
  refine lv_aload_n hx hb dX0_refer_0 rfl (lv_at hl 0 rfl) ?_
  refine va_get (D := D) (ci := 0) (v := .int (nI n)) (C := RX0) (T := TX0) (N := 7) hx hb hts hin hown hK hP 0 rfl rfl 1 (by decide) (hts (.fieldLink RX0 13 "ReferredNames" "handLength" "I") (by decide +kernel)) (fun _ h9 => h9) rfl dX0_refer_1 ?_
  refine lv_if_ne (tgt := 10) hx hb dX0_refer_4 (by decide) (fun c0 => ?_) (fun c0 => ?_)
  · rw [show (0 : Int32) = nI 0 from rfl] at c0
    rw [nI_eq (by omega) (by omega)] at c0
    rw [rn_rf_p c0] at hret
    rcases rn_tk_c (fh := fh) (n := n) (fb := fb) (fl := fl) (fg := fg) (fr := fr) hk with ⟨j, hj, e1, e2⟩ | ⟨e1, hlt, e2⟩ | ⟨e1, hlt, e2⟩
    · rw [e2, rn_rs_j (by omega)] at hret
      refine lv_aload_n hx hb dX0_refer_10 rfl (lv_at hl 0 rfl) ?_
      have c9 := kX0_takeHand l D h q cs fh n fb fl fg fr k (by omega) (by omega) s.heap.size hby
      rw [e2] at c9
      refine wr_call (ci := 0) (b := h) (As := []) (rest := []) (wr := []) ⟨hx, hb, hml, hown, hts⟩ (c9) (cwV 0 hts gX0_refer_X0_takeHand rfl rfl rfl (by decide +kernel) ⟨Nat.le_of_ble_eq_true rfl, Nat.le_of_ble_eq_true rfl⟩) hK hP hD hS hA [0, 1, 2, 3, 4, 5] [] rfl rfl (by decide) (by decide) (by decide) rfl rfl rfl rfl hl.1 rfl (Nat.le_of_ble_eq_true rfl) dX0_refer_11 ⟨Nat.le_of_ble_eq_true rfl, Nat.le_of_ble_eq_true rfl⟩ (fun H locs hP hD hS => ?_)
      have hP : va_P D vwCl (wX h q cs fh 0 fb fl fg fr k) H := hP
      have hD : va_D A (wX h q cs fh 0 fb fl fg fr k) := hD
      refine rb_top (y := nI j) rfl ?_
      refine lv_istore_n (lv' := [(1, .int (nI j)), (0, .ref h)]) hx hb dX0_refer_14 rfl hl (by decide) rfl (fun ls hl => ?_)
      refine lv_iload_n hx hb dX0_refer_15 rfl (lv_at hl 0 rfl) ?_
      refine lv_if_ge (tgt := 21) hx hb dX0_refer_16 (by decide) (fun c1 => ?_) (fun c1 => ?_)
      · rw [show (0 : Int32) = nI 0 from rfl] at c1
        rw [nI_leI (by omega) (by omega)] at c1
        refine lv_aload_n hx hb dX0_refer_21 rfl (lv_at hl 1 rfl) ?_
        refine va_get (D := D) (ci := 0) (v := .ref (q 5)) (C := RX0) (T := TX0) (N := 7) hx hb hts hin hown hK hP 0 rfl rfl 5 (by decide) (hts (.fieldLink RX0 27 "ReferredNames" "referrals" "[I") (by decide +kernel)) (fun _ h9 => h9) rfl dX0_refer_22 ?_
        refine lv_iload_n hx hb dX0_refer_25 rfl (lv_at hl 0 rfl) ?_
        refine lv_dup2_11 hx hb dX0_refer_26 rfl rfl ?_
        refine rb_ild hx hb hK hP 5 4 rfl rfl (i := j) (by omega) (by decide) dX0_refer_27 ?_
        refine lv_iconst (v := nI 1) hx hb dX0_refer_28 (by decide) ?_
        refine lv_iadd hx hb dX0_refer_29 ?_
        refine rb_ist hx hb hK hP hD hS 5 4 rfl rfl (i := j) (by omega) (by decide) dX0_refer_30 (fun H locs hP hD hS => ?_)
        have hP : va_P D vwCl (wX h q cs fh 0 fb fl fg (upd fr j ((fr j) + (nI 1))) k) H := hP
        have hD : va_D A (wX h q cs fh 0 fb fl fg (upd fr j ((fr j) + (nI 1))) k) := hD
        refine lv_iload_n hx hb dX0_refer_31 rfl (lv_at hl 0 rfl) ?_
        refine rb_top (y := nI j) rfl ?_
        exact hret _ _ _ _ dX0_refer_32 hP hD hS
      · rw [show (0 : Int32) = nI 0 from rfl] at c1
        rw [nI_leI (by omega) (by omega)] at c1
        exfalso; omega
    · rw [e2, rn_rs_j (by omega)] at hret
      refine lv_aload_n hx hb dX0_refer_10 rfl (lv_at hl 0 rfl) ?_
      have c9 := kX0_takeHand l D h q cs fh n fb fl fg fr k (by omega) (by omega) s.heap.size hby
      rw [e2] at c9
      refine wr_call (ci := 0) (b := h) (As := []) (rest := []) (wr := []) ⟨hx, hb, hml, hown, hts⟩ (c9) (cwV 0 hts gX0_refer_X0_takeHand rfl rfl rfl (by decide +kernel) ⟨Nat.le_of_ble_eq_true rfl, Nat.le_of_ble_eq_true rfl⟩) hK hP hD hS hA [0, 1, 2, 3, 4, 5] [] rfl rfl (by decide) (by decide) (by decide) rfl rfl rfl rfl hl.1 rfl (Nat.le_of_ble_eq_true rfl) dX0_refer_11 ⟨Nat.le_of_ble_eq_true rfl, Nat.le_of_ble_eq_true rfl⟩ (fun H locs hP hD hS => ?_)
      have hP : va_P D vwCl (wX h q cs fh 0 (va_cpy fh fb 0 (k * 60) n) (upd fl k (nI n)) (upd fg k (nI 0)) (upd fr k (nI 0)) (k + 1)) H := hP
      have hD : va_D A (wX h q cs fh 0 (va_cpy fh fb 0 (k * 60) n) (upd fl k (nI n)) (upd fg k (nI 0)) (upd fr k (nI 0)) (k + 1)) := hD
      refine rb_top (y := nI k) rfl ?_
      refine lv_istore_n (lv' := [(1, .int (nI k)), (0, .ref h)]) hx hb dX0_refer_14 rfl hl (by decide) rfl (fun ls hl => ?_)
      refine lv_iload_n hx hb dX0_refer_15 rfl (lv_at hl 0 rfl) ?_
      refine lv_if_ge (tgt := 21) hx hb dX0_refer_16 (by decide) (fun c1 => ?_) (fun c1 => ?_)
      · rw [show (0 : Int32) = nI 0 from rfl] at c1
        rw [nI_leI (by omega) (by omega)] at c1
        refine lv_aload_n hx hb dX0_refer_21 rfl (lv_at hl 1 rfl) ?_
        refine va_get (D := D) (ci := 0) (v := .ref (q 5)) (C := RX0) (T := TX0) (N := 7) hx hb hts hin hown hK hP 0 rfl rfl 5 (by decide) (hts (.fieldLink RX0 27 "ReferredNames" "referrals" "[I") (by decide +kernel)) (fun _ h9 => h9) rfl dX0_refer_22 ?_
        refine lv_iload_n hx hb dX0_refer_25 rfl (lv_at hl 0 rfl) ?_
        refine lv_dup2_11 hx hb dX0_refer_26 rfl rfl ?_
        refine rb_ild hx hb hK hP 5 4 rfl rfl (i := k) (by omega) (by decide) dX0_refer_27 ?_
        refine lv_iconst (v := nI 1) hx hb dX0_refer_28 (by decide) ?_
        refine lv_iadd hx hb dX0_refer_29 ?_
        refine rb_ist hx hb hK hP hD hS 5 4 rfl rfl (i := k) (by omega) (by decide) dX0_refer_30 (fun H locs hP hD hS => ?_)
        have hP : va_P D vwCl (wX h q cs fh 0 (va_cpy fh fb 0 (k * 60) n) (upd fl k (nI n)) (upd fg k (nI 0)) (upd (upd fr k (nI 0)) k (((upd fr k (nI 0)) k) + (nI 1))) (k + 1)) H := hP
        have hD : va_D A (wX h q cs fh 0 (va_cpy fh fb 0 (k * 60) n) (upd fl k (nI n)) (upd fg k (nI 0)) (upd (upd fr k (nI 0)) k (((upd fr k (nI 0)) k) + (nI 1))) (k + 1)) := hD
        refine lv_iload_n hx hb dX0_refer_31 rfl (lv_at hl 0 rfl) ?_
        refine rb_top (y := nI k) rfl ?_
        exact hret _ _ _ _ dX0_refer_32 hP hD hS
      · rw [show (0 : Int32) = nI 0 from rfl] at c1
        rw [nI_leI (by omega) (by omega)] at c1
        exfalso; omega
    · rw [e2, rn_rs_n] at hret
      refine lv_aload_n hx hb dX0_refer_10 rfl (lv_at hl 0 rfl) ?_
      have c9 := kX0_takeHand l D h q cs fh n fb fl fg fr k (by omega) (by omega) s.heap.size hby
      rw [e2] at c9
      refine wr_call (ci := 0) (b := h) (As := []) (rest := []) (wr := []) ⟨hx, hb, hml, hown, hts⟩ (c9) (cwV 0 hts gX0_refer_X0_takeHand rfl rfl rfl (by decide +kernel) ⟨Nat.le_of_ble_eq_true rfl, Nat.le_of_ble_eq_true rfl⟩) hK hP hD hS hA [0, 1, 2, 3, 4, 5] [] rfl rfl (by decide) (by decide) (by decide) rfl rfl rfl rfl hl.1 rfl (Nat.le_of_ble_eq_true rfl) dX0_refer_11 ⟨Nat.le_of_ble_eq_true rfl, Nat.le_of_ble_eq_true rfl⟩ (fun H locs hP hD hS => ?_)
      have hP : va_P D vwCl (wX h q cs fh 0 fb fl fg fr k) H := hP
      have hD : va_D A (wX h q cs fh 0 fb fl fg fr k) := hD
      refine rb_top (y := (-2)) rfl ?_
      refine lv_istore_n (lv' := [(1, .int ((-2))), (0, .ref h)]) hx hb dX0_refer_14 rfl hl (by decide) rfl (fun ls hl => ?_)
      refine lv_iload_n hx hb dX0_refer_15 rfl (lv_at hl 0 rfl) ?_
      refine lv_if_ge (tgt := 21) hx hb dX0_refer_16 (by decide) (fun c1 => ?_) (fun c1 => ?_)
      · exact absurd c1 (by decide)
      · refine lv_iload_n hx hb dX0_refer_19 rfl (lv_at hl 0 rfl) ?_
        refine rb_top (y := (-2)) rfl ?_
        exact hret _ _ _ _ dX0_refer_20 hP hD hS
  · rw [show (0 : Int32) = nI 0 from rfl] at c0
    rw [nI_eq (by omega) (by omega)] at c0
    rw [rn_rf_0 c0] at hret
    refine lv_bipush (v := (-3)) hx hb dX0_refer_7 (by decide) ?_
    refine rb_top (y := (-3)) rfl ?_
    exact hret _ _ _ _ dX0_refer_9 hP hD hS
abbrev rmX0_clear : Room := { frames := 0, cells := 0, slots := 0, locals := 0 }
set_option maxHeartbeats 4000000 in
set_option maxRecDepth 100000 in
theorem kX0_clear (l : Launch) (D : va_G) (h : Nat) (q : Nat → Nat) (cs : Nat → ClassId) (fh : Nat → Int32) (n : Nat) (fb fl fg fr : Nat → Int32) (k : Nat) (hn : n ≤ 60) (hk : k ≤ 200) (sz : Nat) : Met l yX0_clear wsX0_clear rmX0_clear (wr_P D vwCl (tX cs) [.ref h] (wX h q cs fh n fb fl fg fr k) sz) (wr_Q D vwCl (tX cs) (wX h q cs fh n fb fl fg fr k) (wX h q cs fh 0 fb fl fg fr 0) sz (nI k)) 0 0 (va_A (wX h q cs fh n fb fl fg fr k) sz) := by
  refine wr_of (cc := cX0_clear) (maxL := 2) (ty := .int) (by decide) rfl rfl (Nat.le_of_ble_eq_true rfl) ?_
  intro p e s m args below meth c ls Q A hx hb hml hown hts hK hA hP hD hS hl hret
  have hown : s.vm.findClass RX0 = some m.cls := hown
  have hin : ∀ w ∈ wsX00, w ∈ wsX0_clear := by decide +kernel
  have hl : lv_has ls 2 [(0, .ref h)] := hl
  refine lv_aload_n hx hb dX0_clear_0 rfl (lv_at hl 0 rfl) ?_
  refine va_get (D := D) (ci := 0) (v := .int (nI k)) (C := RX0) (T := TX0) (N := 7) hx hb hts hin hown hK hP 0 rfl rfl 6 (by decide) (hts (.fieldLink RX0 30 "ReferredNames" "known" "I") (by decide +kernel)) (fun _ h9 => h9) rfl dX0_clear_1 ?_
  refine lv_istore_n (lv' := [(1, .int (nI k)), (0, .ref h)]) hx hb dX0_clear_4 rfl hl (by decide) rfl (fun ls hl => ?_)
  refine lv_aload_n hx hb dX0_clear_5 rfl (lv_at hl 1 rfl) ?_
  refine lv_iconst (v := nI 0) hx hb dX0_clear_6 (by decide) ?_
  refine va_put (D := D) (ci := 0) (v := .int (nI 0)) (ty := .int) (C := RX0) (T := TX0) (N := 7) hx hb hts hin tyX0 tyX0_ok nmX0 hown hK hP hD hS 0 rfl rfl 6 (by decide) (hts (.fieldLink RX0 30 "ReferredNames" "known" "I") (by decide +kernel)) (fun _ h9 => h9) rfl (by decide +kernel) rfl rfl (Nat.le_of_ble_eq_true rfl) dX0_clear_7 (fun H locs hP hD hS => ?_)
  have hP : va_P D vwCl (wX h q cs fh n fb fl fg fr 0) H := hP
  have hD : va_D A (wX h q cs fh n fb fl fg fr 0) := hD
  refine lv_aload_n hx hb dX0_clear_10 rfl (lv_at hl 1 rfl) ?_
  refine lv_iconst (v := nI 0) hx hb dX0_clear_11 (by decide) ?_
  refine va_put (D := D) (ci := 0) (v := .int (nI 0)) (ty := .int) (C := RX0) (T := TX0) (N := 7) hx hb hts hin tyX0 tyX0_ok nmX0 hown hK hP hD hS 0 rfl rfl 1 (by decide) (hts (.fieldLink RX0 13 "ReferredNames" "handLength" "I") (by decide +kernel)) (fun _ h9 => h9) rfl (by decide +kernel) rfl rfl (Nat.le_of_ble_eq_true rfl) dX0_clear_12 (fun H locs hP hD hS => ?_)
  have hP : va_P D vwCl (wX h q cs fh 0 fb fl fg fr 0) H := hP
  have hD : va_D A (wX h q cs fh 0 fb fl fg fr 0) := hD
  refine lv_iload_n hx hb dX0_clear_15 rfl (lv_at hl 0 rfl) ?_
  refine rb_top (y := nI k) rfl ?_
  exact hret _ _ _ _ dX0_clear_16 hP hD hS
end
section
/-! Pure rows for the reference: its loops answer the same words. -/
theorem rn_k_upd {f : Nat → Int32} {i : Nat} {x : Int32} : upd (rn_k f) i (x &&& nI 255) = rn_k (upd f i x) := by
  funext j
  by_cases h : j = i
  · subst h
    show upd (rn_k f) j (x &&& nI 255) j = upd f j x j &&& nI 255
    rw [pk_us, pk_us]
  · show upd (rn_k f) i (x &&& nI 255) j = upd f i x j &&& nI 255
    rw [pk_un h, pk_un h]
    rfl
theorem rn_k_upd2 {f g : Nat → Int32} {i j : Nat} : upd (rn_k f) i (rn_k g j) = rn_k (upd f i (g j)) := rn_k_upd
theorem rn_k_0 : rn_k (fun _ => 0) = fun _ => 0 := by
  funext i
  show (0 : Int32) &&& nI 255 = 0
  decide
/-- two bytes with the same lowest eight bits are one -/
theorem rn_8 {x y : Int32} (hx : x.toInt8.toInt32 = x) (hy : y.toInt8.toInt32 = y) (h : x &&& nI 255 = y &&& nI 255) : x = y := by
  have ex : (x &&& nI 255).toInt8.toInt32 = x := by
    rw [← hx]
    have := sc_b8 (x.toInt8.toBitVec.toNat) (by have := x.toInt8.toBitVec.isLt; omega)
    have e : Int8.ofNat x.toInt8.toBitVec.toNat = x.toInt8 := by
      apply Int8.toBitVec_inj.mp
      simp [Int8.toBitVec_ofNat]
    rw [e] at this
    exact this
  have ey : (y &&& nI 255).toInt8.toInt32 = y := by
    rw [← hy]
    have := sc_b8 (y.toInt8.toBitVec.toNat) (by have := y.toInt8.toBitVec.isLt; omega)
    have e : Int8.ofNat y.toInt8.toBitVec.toNat = y.toInt8 := by
      apply Int8.toBitVec_inj.mp
      simp [Int8.toBitVec_ofNat]
    rw [e] at this
    exact this
  rw [← ex, h, ey]
theorem rn_le0 {x : Int32} (h : ∃ y : Nat, y < 2 ^ 30 ∧ x = nI y) (c : x ≤ 0) : x = 0 := by
  obtain ⟨y, hy, rfl⟩ := h
  rw [show (0 : Int32) = nI 0 from rfl, nI_leI (by omega) (by omega)] at c
  rw [show y = 0 by omega]
  rfl
theorem rn_nle0 {x : Int32} (c : ¬ x ≤ 0) : ¬ x = 0 := fun q => c (by rw [q]; decide)
theorem rn_lt1 {a : Nat} (h : a < 2 ^ 31) : nI a + (-1) < nI a := by
  cases a with
  | zero => decide
  | succ b => rw [pk_m1]; exact nI_lt (by omega) h
theorem rn_s1 (k : Nat) : nI k - nI 1 = nI k + (-1) := by
  cases k with
  | zero => decide
  | succ b => exact rn_p1 (by omega)
theorem rn_ff_bt {P : Nat → Bool} {k x : Nat} (h : x < k) (hp : P x = true) : rn_ff P (k - x) x = nI x := by
  rw [show k - x = (k - (x + 1)) + 1 by omega]
  exact rn_ff_t hp
theorem rn_ff_bf {P : Nat → Bool} {k x : Nat} (h : x < k) (hp : P x = false) : rn_ff P (k - x) x = rn_ff P (k - (x + 1)) (x + 1) := by
  rw [show k - x = (k - (x + 1)) + 1 by omega]
  exact rn_ff_f hp
theorem rn_ff_app (P : Nat → Bool) : ∀ (f j : Nat), P (j + f) = false → rn_ff P (f + 1) j = rn_ff P f j
  | 0, j, h => (rn_ff_f (f := 0) (show P j = false from h)).trans rfl
  | f + 1, j, h => by
    cases hp : P j with
    | true => rw [rn_ff_t hp, rn_ff_t hp]
    | false =>
      rw [rn_ff_f hp, rn_ff_f hp]
      exact rn_ff_app P f (j + 1) (by rw [show j + 1 + f = j + (f + 1) by omega]; exact h)
theorem rn_ff_nil {P : Nat → Bool} : ∀ (f j : Nat), (∀ x, j ≤ x → x < j + f → P x = false) → rn_ff P f j = -1
  | 0, _, _ => rfl
  | f + 1, j, h => by
    rw [rn_ff_f (h j (Nat.le_refl j) (by omega))]
    exact rn_ff_nil f (j + 1) (fun x h1 h2 => h x (by omega) (by omega))
theorem rn_ff_end {P : Nat → Bool} : ∀ (f j : Nat), (∀ x, j ≤ x → x < j + f → P x = false) → P (j + f) = true → rn_ff P (f + 1) j = nI (j + f)
  | 0, _, _, h => rn_ff_t h
  | f + 1, j, h, hp => by
    rw [rn_ff_f (h j (Nat.le_refl j) (by omega)), rn_ff_end f (j + 1) (fun x h1 h2 => h x (by omega) (by omega)) (by rw [show j + 1 + f = j + (f + 1) by omega]; exact hp)]
    rw [show j + 1 + f = j + (f + 1) by omega]
/-- the match is one alone: the last found is the first -/
theorem rn_sn_t {P : Nat → Bool} {j k : Nat} (hj : j < k) (hu : ∀ a b, a < b → b < k → P a = true → P b = true → False) (h : P j = true) : rn_ff P (j + 1) 0 = nI j := by
  have := rn_ff_end (P := P) j 0 (fun x _ h2 => by
    cases hx : P x with
    | false => rfl
    | true => exact (hu x j (by omega) hj hx h).elim) (by rw [Nat.zero_add]; exact h)
  rw [Nat.zero_add] at this
  exact this
theorem rn_sn_f {P : Nat → Bool} {j : Nat} (h : P j = false) : rn_ff P (j + 1) 0 = rn_ff P j 0 := rn_ff_app P j 0 (by rw [Nat.zero_add]; exact h)
/-- name j is like the hand in its first i bytes -/
def rn_mq (fh : Nat → Int32) (n : Nat) (fb fl : Nat → Int32) (j i : Nat) : Bool := decide (fl j = nI n ∧ ∀ x, x < i → fb (j * 60 + x) = fh x)
section MQ
variable {fh fb fl : Nat → Int32} {n j i : Nat}
theorem rn_mq_n : rn_mq fh n fb fl j n = rn_mt fh n fb fl j := rfl
theorem rn_mq_0t (h : fl j = nI n) : rn_mq fh n fb fl j 0 = true := decide_eq_true ⟨h, lt_0⟩
theorem rn_mq_0f (h : ¬ fl j = nI n) : rn_mq fh n fb fl j 0 = false := decide_eq_false (fun q => h q.1)
theorem rn_mq_f (h : rn_mq fh n fb fl j i = false) : rn_mq fh n fb fl j (i + 1) = false := decide_eq_false (fun q => of_decide_eq_false h ⟨q.1, fun x hx => q.2 x (by omega)⟩)
theorem rn_mq_d (h : ¬ rn_k fb (j * 60 + i) = rn_k fh i) : rn_mq fh n fb fl j (i + 1) = false := decide_eq_false (fun q => h (by
  show fb (j * 60 + i) &&& nI 255 = fh i &&& nI 255
  rw [q.2 i (by omega)]))
theorem rn_mq_s (hb : (fb (j * 60 + i)).toInt8.toInt32 = fb (j * 60 + i)) (hh : (fh i).toInt8.toInt32 = fh i) (h : rn_mq fh n fb fl j i = true) (h2 : rn_k fb (j * 60 + i) = rn_k fh i) : rn_mq fh n fb fl j (i + 1) = true := decide_eq_true ⟨(of_decide_eq_true h).1, lt_s (of_decide_eq_true h).2 (rn_8 hb hh h2)⟩
end MQ
theorem rn_gi1 {x : Int32} (h : x + nI 1 = nI 1) : x = 0 := by
  have e := Int32.add_sub_cancel x (nI 1)
  rw [h] at e
  exact e.symm.trans (by decide)
theorem rn_sub1 (a x : Int32) : a + x - nI 1 = a + (x - 1) := by
  rw [show (nI 1) = (1 : Int32) from rfl, Int32.sub_eq_add_neg, Int32.sub_eq_add_neg, Int32.add_assoc]
theorem rn_03 {w : Int32} (h : ¬ w < 0) (h2 : w ≤ nI 3) : ∃ y : Nat, y < 4 ∧ w = nI y := by
  obtain ⟨j, hj, e⟩ := nI_of2 (M := nI 3) (n := 3) (by decide) h h2
  exact ⟨j, by omega, e⟩
theorem rn_out4 {w : Int32} (h : w < 0 ∨ ¬ w ≤ nI 3) : w.toInt < 0 ∨ ((4 : Nat) : Int) - 1 < w.toInt := by
  rw [Int32.lt_iff_toInt_lt, Int32.le_iff_toInt_le, nI_toInt (by decide), Int32.toInt_zero] at h
  omega
theorem rn_g3_m {fg : Nat → Int32} {j : Nat} {a : Int32} (_ : ∃ y : Nat, y < 2 ^ 30 ∧ fg j = nI y) (c : ¬ fg j ≤ nI 1) : rn_g3 fg j a = a + (fg j - 1) := rn_g3_t (decide_eq_true (fun q => c (by rw [q]; decide)))
theorem rn_g3_l {fg : Nat → Int32} {j : Nat} {a : Int32} (h : ∃ y : Nat, y < 2 ^ 30 ∧ fg j = nI y) (c : fg j ≤ nI 1) : rn_g3 fg j a = a := by
  obtain ⟨y, hy, e⟩ := h
  rw [e, nI_leI (by omega) (by omega)] at c
  rcases (show y = 0 ∨ y = 1 by omega) with rfl | rfl
  · exact rn_g3_f (decide_eq_false (fun q => q e))
  · rw [rn_g3_t (decide_eq_true (by rw [e]; decide)), e]
    show a + (nI 1 - 1) = a
    rw [show nI 1 - 1 = (0 : Int32) by decide]
    exact Int32.add_zero a
theorem rn_c2 {c : Int32} (h0 : ¬ c < nI 1) (h1 : ¬ nI 8 < c) : ∃ j : Nat, 1 ≤ j ∧ j ≤ 8 ∧ c = nI j := by
  rw [Int32.lt_iff_toInt_lt, nI_toInt (by decide)] at h0 h1
  rcases pk_ix c (n := 9) (by decide) with q | q | ⟨j, hj, rfl⟩
  · rw [Int32.lt_iff_toInt_lt, Int32.toInt_zero] at q
    omega
  · rw [Int32.le_iff_toInt_le, nI_toInt (by decide)] at q
    omega
  · rw [nI_toInt (by omega)] at h0 h1
    exact ⟨j, by omega, by omega, rfl⟩
/-- the long, shifted by eight bits t times -/
def rn_sh (v : Int64) : Nat → Int64
  | 0 => v
  | t + 1 => rn_sh v t >>> ((nI 8).toInt64 &&& 63)
theorem rn_sh_s (x : Int64) (i : Nat) (hi : i + 8 < 64) : (x >>> ((nI 8).toInt64 &&& 63)).toBitVec.getLsbD i = x.toBitVec.getLsbD (8 + i) := by
  have e9 : (((nI 8).toInt64 &&& 63).toBitVec.smod 64).toNat = 8 := by decide +kernel
  rw [Int64.toBitVec_shiftRight, BitVec.getLsbD_sshiftRight', e9, if_pos (by omega), decide_eq_false (by omega)]
  rfl
theorem rn_sh_bit (v : Int64) : ∀ (f i : Nat), 8 * f + i < 64 → (rn_sh v f).toBitVec.getLsbD i = v.toBitVec.getLsbD (8 * f + i)
  | 0, i, _ => by rw [Nat.mul_zero, Nat.zero_add]; rfl
  | f + 1, i, h => by
    show (rn_sh v f >>> ((nI 8).toInt64 &&& 63)).toBitVec.getLsbD i = _
    rw [rn_sh_s _ i (by omega), rn_sh_bit v f (8 + i) (by omega)]
    congr 1
    omega
theorem rn_cu : ∀ k, k < 64 → ((nI k).toInt64.toUInt64 &&& Int64.toUInt64 63) = UInt64.ofNat k := by decide +kernel
theorem rn_b255 (x : Int32) : x.toInt8.toInt32 &&& 255 = x &&& 255 := by
  apply Int32.toBitVec_inj.mp
  rw [Int32.toBitVec_and, Int32.toBitVec_and, Int8.toBitVec_toInt32, Int32.toBitVec_toInt8]
  apply BitVec.eq_of_getLsbD_eq
  intro i hi
  rw [BitVec.getLsbD_and, BitVec.getLsbD_and]
  have hm : ∀ i < 32, 8 ≤ i → (255 : Int32).toBitVec.getLsbD i = false := by decide
  rcases Nat.lt_or_ge i 8 with z | z
  · rw [BitVec.getLsbD_signExtend, BitVec.getLsbD_signExtend, if_pos z, if_pos hi]
    simp only [z, hi, decide_true, Bool.true_and]
  · rw [hm i hi z]; simp
/-- the byte that the reference keeps is the lowest eight bits of the one kept here -/
theorem rn_shb (v : Int64) {f : Nat} (hf : f ≤ 7) : (rn_sh v f &&& 255).toInt32 = rn_by v f &&& nI 255 := by
  have eX : ((v.toUInt64 >>> ((nI (8 * f)).toInt64.toUInt64 &&& Int64.toUInt64 63)).toInt64).toBitVec = v.toBitVec >>> (8 * f) := by
    rw [rn_cu (8 * f) (by omega)]
    apply BitVec.eq_of_toNat_eq
    show (v.toUInt64 >>> UInt64.ofNat (8 * f)).toNat = _
    have h1 : (UInt64.ofNat (8 * f)).toNat = 8 * f := by
      show (BitVec.ofNat 64 (8 * f)).toNat = 8 * f
      rw [BitVec.toNat_ofNat, Nat.mod_eq_of_lt (by omega)]
    rw [UInt64.toNat_shiftRight, h1, Nat.mod_eq_of_lt (by omega), BitVec.toNat_ushiftRight]
    rfl
  have e2 : rn_by v f &&& nI 255 = ((v.toUInt64 >>> ((nI (8 * f)).toInt64.toUInt64 &&& Int64.toUInt64 63)).toInt64).toInt32 &&& 255 := rn_b255 _
  rw [e2]
  apply Int32.toBitVec_inj.mp
  apply BitVec.eq_of_getLsbD_eq
  intro i hi
  have m1 : ∀ i < 32, (255 : Int64).toBitVec.getLsbD i = decide (i < 8) := by decide +kernel
  have m2 : ∀ i < 32, (255 : Int32).toBitVec.getLsbD i = decide (i < 8) := by decide +kernel
  rw [Int32.toBitVec_and, BitVec.getLsbD_and, m2 i hi, Int64.toBitVec_toInt32, Int64.toBitVec_toInt32, BitVec.getLsbD_signExtend, BitVec.getLsbD_signExtend, if_pos (by omega), if_pos (by omega), eX, Int64.toBitVec_and, BitVec.getLsbD_and, m1 i hi, BitVec.getLsbD_ushiftRight]
  by_cases h : i < 8
  · rw [rn_sh_bit v f i (by omega)]
    cases v.toBitVec.getLsbD (8 * f + i) <;> simp [hi]
  · rw [decide_eq_false h]
    simp
end
section
abbrev rmX1_isMissing : Room := { frames := 0, cells := 0, slots := 0, locals := 0 }
set_option maxHeartbeats 4000000 in
set_option maxRecDepth 100000 in
theorem kX1_isMissing (l : Launch) (D : va_G) (h : Nat) (q : Nat → Nat) (cs : Nat → ClassId) (fh : Nat → Int32) (n : Nat) (fb fl fg fr : Nat → Int32) (k : Nat) (hn : n ≤ 60) (hk : k ≤ 200) (j : Nat) (hj : j < k) (hr0 : ∀ j, j < k → ∃ y : Nat, y < 2 ^ 30 ∧ fr j = nI y) : Met l yX1_isMissing wsX1_isMissing rmX1_isMissing (rd_P D vwCl (tM cs) [.ref h, .int (nI j)] (wM h q cs fh n fb fl fg fr k)) (QcRead (rn_b (rn_mi fg fr j))) 0 0 (fun _ => False) := by
  refine rd_of (cc := cX1_isMissing) (maxL := 2) (ty := .boolean) (by decide) rfl (rn_b_nar _) (Nat.le_of_ble_eq_true rfl) ?_
  intro p e s m args below meth c ls Q hx hb hml hown hts hK hP hl hret
  have hown : s.vm.findClass RX1 = some m.cls := hown
  have hin : ∀ w ∈ wsX10, w ∈ wsX1_isMissing := by decide +kernel
  have hl : lv_has ls 2 [(0, .ref h), (1, .int (nI j))] := hl
  refine lv_aload_n hx hb dX1_isMissing_0 rfl (lv_at hl 0 rfl) ?_
  refine va_get (D := D) (ci := 1) (v := .ref (q 5)) (C := RX1) (T := TX1) (N := 7) hx hb hts hin hown hK hP 0 rfl rfl 5 (by decide) (hts (.fieldLink RX1 22 "ReferredNamesModel" "referred" "[I") (by decide +kernel)) (fun _ h9 => h9) rfl dX1_isMissing_1 ?_
  refine lv_iload_n hx hb dX1_isMissing_4 rfl (lv_at hl 1 rfl) ?_
  refine rb_ild hx hb hK hP 5 4 rfl rfl (i := j) (by omega) (by decide) dX1_isMissing_5 ?_
  refine lv_if_le (tgt := 22) hx hb dX1_isMissing_6 (by decide) (fun c0 => ?_) (fun c0 => ?_)
  · refine lv_iconst (v := nI 0) hx hb dX1_isMissing_22 (by decide) ?_
    exact rb_top (rn_b0 (decide_eq_false (fun q9 => q9.1 (rn_le0 (hr0 j hj) c0)))) (hret _ _ dX1_isMissing_23)
  · refine lv_aload_n hx hb dX1_isMissing_9 rfl (lv_at hl 0 rfl) ?_
    refine va_get (D := D) (ci := 1) (v := .ref (q 4)) (C := RX1) (T := TX1) (N := 7) hx hb hts hin hown hK hP 0 rfl rfl 4 (by decide) (hts (.fieldLink RX1 19 "ReferredNamesModel" "given" "[I") (by decide +kernel)) (fun _ h9 => h9) rfl dX1_isMissing_10 ?_
    refine lv_iload_n hx hb dX1_isMissing_13 rfl (lv_at hl 1 rfl) ?_
    refine rb_ild hx hb hK hP 4 3 rfl rfl (i := j) (by omega) (by decide) dX1_isMissing_14 ?_
    refine lv_if_ne (tgt := 22) hx hb dX1_isMissing_15 (by decide) (fun c1 => ?_) (fun c1 => ?_)
    · refine lv_iconst (v := nI 0) hx hb dX1_isMissing_22 (by decide) ?_
      exact rb_top (rn_b0 (decide_eq_false (fun q9 => c1 q9.2))) (hret _ _ dX1_isMissing_23)
    · refine lv_iconst (v := nI 1) hx hb dX1_isMissing_18 (by decide) ?_
      refine lv_goto (tgt := 23) hx hb dX1_isMissing_19 (by decide) ?_
      exact rb_top (rn_b1 (decide_eq_true ⟨rn_nle0 c0, c1⟩)) (hret _ _ dX1_isMissing_23)
abbrev rmX1_missingFrom : Room := { frames := 1, cells := 0, slots := 0, locals := 21 }
set_option maxHeartbeats 4000000 in
set_option maxRecDepth 100000 in
theorem kX1_missingFrom (l : Launch) (D : va_G) (h : Nat) (q : Nat → Nat) (cs : Nat → ClassId) (fh : Nat → Int32) (n : Nat) (fb fl fg fr : Nat → Int32) (k : Nat) (hn : n ≤ 60) (hk : k ≤ 200) (a : Nat) (ha : a ≤ k) (hr0 : ∀ j, j < k → ∃ y : Nat, y < 2 ^ 30 ∧ fr j = nI y) : Met l yX1_missingFrom wsX1_missingFrom rmX1_missingFrom (rd_P D vwCl (tM cs) [.ref h, .int (nI a)] (wM h q cs fh n fb fl fg fr k)) (QcRead (rn_ff (rn_mi fg fr) (k - a) a)) 0 0 (fun _ => False) := by
  refine rd_of (cc := cX1_missingFrom) (maxL := 4) (ty := .int) (by decide) rfl rfl (Nat.le_of_ble_eq_true rfl) ?_
  intro p e s m args below meth c ls Q hx hb hml hown hts hK hP hl hret
  have hown : s.vm.findClass RX1 = some m.cls := hown
  have hin : ∀ w ∈ wsX10, w ∈ wsX1_missingFrom := by decide +kernel
  have hl : lv_has ls 4 [(0, .ref h), (1, .int (nI a))] := hl
  have loop : ∀ (f : Nat) (r0 : Int32) (ls : Array Slot), a + f ≤ k → r0 = rn_ff (rn_mi fg fr) (k - (a + f)) (a + f) → lv_has ls 4 [(0, .ref h), (1, .int (nI a)), (2, .int r0), (3, .int (nI (a + f) + (-1)))] → W p l e rmX1_missingFrom s m args below meth c s.heap [] 0 0 Q (F0 m 9 ls []) := by
    intro f
    induction f with
    | zero =>
      intro r0 ls hf hr hl
      refine lv_iload_n hx hb dX1_missingFrom_9 rfl (lv_at hl 3 rfl) ?_
      refine lv_iload_n hx hb dX1_missingFrom_10 rfl (lv_at hl 1 rfl) ?_
      refine lv_icmp_lt (tgt := 34) hx hb dX1_missingFrom_11 (by decide) (fun c0 => ?_) (fun c0 => ?_)
      · refine lv_iload_n hx hb dX1_missingFrom_34 rfl (lv_at hl 2 rfl) ?_
        exact rb_top hr (hret _ _ dX1_missingFrom_35)
      · exact absurd (rn_lt1 (by omega)) c0
    | succ f ih =>
      intro r0 ls hf hr hl
      rw [show nI (a + (f + 1)) + (-1) = nI (a + f) from pk_m1 (a + f)] at hl
      refine lv_iload_n hx hb dX1_missingFrom_9 rfl (lv_at hl 3 rfl) ?_
      refine lv_iload_n hx hb dX1_missingFrom_10 rfl (lv_at hl 1 rfl) ?_
      refine lv_icmp_lt (tgt := 34) hx hb dX1_missingFrom_11 (by decide) (fun c0 => ?_) (fun c0 => ?_)
      · rw [nI_ltI (by omega) (by omega)] at c0
        exfalso; omega
      · rw [nI_ltI (by omega) (by omega)] at c0
        refine lv_aload_n hx hb dX1_missingFrom_14 rfl (lv_at hl 0 rfl) ?_
        refine lv_iload_n hx hb dX1_missingFrom_15 rfl (lv_at hl 3 rfl) ?_
        refine rd_call (ci := 1) (b := h) (As := [.int (nI (a + f))]) (rest := []) ⟨hx, hb, hml, hown, hts⟩ (kX1_isMissing l D h q cs fh n fb fl fg fr k (by omega) (by omega) (a + f) (by omega) hr0) (cwV 1 hts gX1_missingFrom_X1_isMissing rfl rfl rfl (by decide +kernel) ⟨Nat.le_of_ble_eq_true rfl, Nat.le_of_ble_eq_true rfl⟩) hK hP rfl rfl rfl rfl hl.1 rfl (Nat.le_of_ble_eq_true rfl) dX1_missingFrom_16 ⟨Nat.zero_le _, Nat.zero_le _⟩ ?_
        refine lv_if_eq (tgt := 26) hx hb dX1_missingFrom_19 (by decide) (fun c1 => ?_) (fun c1 => ?_)
        · refine lv_iload_n hx hb dX1_missingFrom_26 rfl (lv_at hl 2 rfl) ?_
          refine lv_istore_n (lv' := [(2, .int r0), (0, .ref h), (1, .int (nI a)), (3, .int (nI (a + f)))]) hx hb dX1_missingFrom_27 rfl hl (by decide) rfl (fun ls hl => ?_)
          refine lv_iinc (v := nI (a + f) + (-1)) (lv' := [(3, .int (nI (a + f) + (-1))), (2, .int r0), (0, .ref h), (1, .int (nI a))]) hx hb dX1_missingFrom_28 hl (k := 3) rfl rfl (by decide) rfl (fun ls hl => ?_)
          refine lv_goto (tgt := 9) hx hb dX1_missingFrom_31 (by decide) ?_
          exact ih (r0) ls (by omega) (hr.trans (rn_ff_bf (by omega) (rn_b_eq c1)).symm) (lv_sub hl [2, 3, 1, 0] rfl)
        · refine lv_iload_n hx hb dX1_missingFrom_22 rfl (lv_at hl 3 rfl) ?_
          refine lv_goto (tgt := 27) hx hb dX1_missingFrom_23 (by decide) ?_
          refine lv_istore_n (lv' := [(2, .int (nI (a + f))), (0, .ref h), (1, .int (nI a)), (3, .int (nI (a + f)))]) hx hb dX1_missingFrom_27 rfl hl (by decide) rfl (fun ls hl => ?_)
          refine lv_iinc (v := nI (a + f) + (-1)) (lv' := [(3, .int (nI (a + f) + (-1))), (2, .int (nI (a + f))), (0, .ref h), (1, .int (nI a))]) hx hb dX1_missingFrom_28 hl (k := 3) rfl rfl (by decide) rfl (fun ls hl => ?_)
          refine lv_goto (tgt := 9) hx hb dX1_missingFrom_31 (by decide) ?_
          exact ih (nI (a + f)) ls (by omega) ((rn_ff_bt (by omega) (rn_b_ne c1)).symm) (lv_sub hl [2, 3, 1, 0] rfl)
  refine lv_iconst (v := (-1)) hx hb dX1_missingFrom_0 (by decide) ?_
  refine lv_istore_n (lv' := [(2, .int ((-1))), (0, .ref h), (1, .int (nI a))]) hx hb dX1_missingFrom_1 rfl hl (by decide) rfl (fun ls hl => ?_)
  refine lv_aload_n hx hb dX1_missingFrom_2 rfl (lv_at hl 1 rfl) ?_
  refine va_get (D := D) (ci := 1) (v := .int (nI k)) (C := RX1) (T := TX1) (N := 7) hx hb hts hin hown hK hP 0 rfl rfl 6 (by decide) (hts (.fieldLink RX1 31 "ReferredNamesModel" "known" "I") (by decide +kernel)) (fun _ h9 => h9) rfl dX1_missingFrom_3 ?_
  refine lv_iconst (v := nI 1) hx hb dX1_missingFrom_6 (by decide) ?_
  refine lv_isub hx hb dX1_missingFrom_7 ?_
  refine rb_top (y := nI k + (-1)) (rn_s1 k) ?_
  refine lv_istore_n (lv' := [(3, .int (nI k + (-1))), (2, .int ((-1))), (0, .ref h), (1, .int (nI a))]) hx hb dX1_missingFrom_8 rfl hl (by decide) rfl (fun ls hl => ?_)
  have ea : a + (k - a) = k := by omega
  exact loop (k - a) (-1) ls (by omega) (by rw [ea, Nat.sub_self]; rfl) (by rw [ea]; exact lv_sub hl [2, 3, 1, 0] rfl)
abbrev rmX1_place : Room := { frames := 0, cells := 0, slots := 0, locals := 0 }
set_option maxHeartbeats 4000000 in
set_option maxRecDepth 100000 in
theorem kX1_place (l : Launch) (D : va_G) (h : Nat) (q : Nat → Nat) (cs : Nat → ClassId) (fh : Nat → Int32) (n : Nat) (fb fl fg fr : Nat → Int32) (k : Nat) (hn : n ≤ 60) (hk : k ≤ 200) (hby : ∀ i, (fh i).toInt8.toInt32 = fh i) (hbb : ∀ i, (fb i).toInt8.toInt32 = fb i) (hu : ∀ a b, a < b → b < k → rn_mt fh n fb fl a = true → rn_mt fh n fb fl b = true → False) : Met l yX1_place wsX1_place rmX1_place (rd_P D vwCl (tM cs) [.ref h] (wM h q cs fh n fb fl fg fr k)) (QcRead (rn_ff (rn_mt fh n fb fl) k 0)) 0 0 (fun _ => False) := by
  refine rd_of (cc := cX1_place) (maxL := 5) (ty := .int) (by decide) rfl rfl (Nat.le_of_ble_eq_true rfl) ?_
  intro p e s m args below meth c ls Q hx hb hml hown hts hK hP hl hret
  have hown : s.vm.findClass RX1 = some m.cls := hown
  have hin : ∀ w ∈ wsX10, w ∈ wsX1_place := by decide +kernel
  have hl : lv_has ls 5 [(0, .ref h)] := hl
  have inner : ∀ (f : Nat) (i j : Nat) (r0 : Int32) (ls : Array Slot), i + f = n → j < k → (∀ ls : Array Slot, lv_has ls 5 [(0, .ref h), (1, .int r0), (2, .int (nI j)), (3, .int (rn_b (rn_mt fh n fb fl j)))] → W p l e rmX1_place s m args below meth c s.heap [] 0 0 Q (F0 m 81 ls [])) → lv_has ls 5 [(0, .ref h), (1, .int r0), (2, .int (nI j)), (3, .int (rn_b (rn_mq fh n fb fl j i))), (4, .int (nI i))] → W p l e rmX1_place s m args below meth c s.heap [] 0 0 Q (F0 m 34 ls []) := by
    intro f
    induction f with
    | zero =>
      intro i j r0 ls hi hj hc hl
      refine lv_iload hx hb dX1_place_34 (lv_at hl 4 rfl) ?_
      refine lv_aload_n hx hb dX1_place_36 rfl (lv_at hl 0 rfl) ?_
      refine va_get (D := D) (ci := 1) (v := .int (nI n)) (C := RX1) (T := TX1) (N := 7) hx hb hts hin hown hK hP 0 rfl rfl 1 (by decide) (hts (.fieldLink RX1 25 "ReferredNamesModel" "inHand" "I") (by decide +kernel)) (fun _ h9 => h9) rfl dX1_place_37 ?_
      refine lv_icmp_ge (tgt := 81) hx hb dX1_place_40 (by decide) (fun c2 => ?_) (fun c2 => ?_)
      · rw [nI_leI (by omega) (by omega)] at c2
        have ei : i = n := by omega
        rw [ei] at hl
        exact hc ls (lv_sub hl [0, 1, 2, 3] rfl)
      · rw [nI_leI (by omega) (by omega)] at c2
        exfalso; omega
    | succ f ih =>
      intro i j r0 ls hi hj hc hl
      refine lv_iload hx hb dX1_place_34 (lv_at hl 4 rfl) ?_
      refine lv_aload_n hx hb dX1_place_36 rfl (lv_at hl 0 rfl) ?_
      refine va_get (D := D) (ci := 1) (v := .int (nI n)) (C := RX1) (T := TX1) (N := 7) hx hb hts hin hown hK hP 0 rfl rfl 1 (by decide) (hts (.fieldLink RX1 25 "ReferredNamesModel" "inHand" "I") (by decide +kernel)) (fun _ h9 => h9) rfl dX1_place_37 ?_
      refine lv_icmp_ge (tgt := 81) hx hb dX1_place_40 (by decide) (fun c2 => ?_) (fun c2 => ?_)
      · rw [nI_leI (by omega) (by omega)] at c2
        exfalso; omega
      · rw [nI_leI (by omega) (by omega)] at c2
        refine lv_iload_n hx hb dX1_place_43 rfl (lv_at hl 3 rfl) ?_
        refine lv_if_eq (tgt := 73) hx hb dX1_place_44 (by decide) (fun c3 => ?_) (fun c3 => ?_)
        · refine lv_iconst (v := nI 0) hx hb dX1_place_73 (by decide) ?_
          refine rb_top (y := rn_b (rn_mq fh n fb fl j (i + 1))) (rn_b0 (rn_mq_f (rn_b_eq c3))) ?_
          refine lv_istore_n (lv' := [(3, .int (rn_b (rn_mq fh n fb fl j (i + 1)))), (0, .ref h), (1, .int r0), (2, .int (nI j)), (4, .int (nI i))]) hx hb dX1_place_74 rfl hl (by decide) rfl (fun ls hl => ?_)
          refine lv_iinc (v := nI (i + 1)) (lv' := [(4, .int (nI (i + 1))), (3, .int (rn_b (rn_mq fh n fb fl j (i + 1)))), (0, .ref h), (1, .int r0), (2, .int (nI j))]) hx hb dX1_place_75 hl (k := 4) rfl (nI_1 i) (by decide) rfl (fun ls hl => ?_)
          refine lv_goto (tgt := 34) hx hb dX1_place_78 (by decide) ?_
          exact ih (i + 1) j r0 ls (by omega) hj hc (lv_sub hl [2, 3, 4, 1, 0] rfl)
        · refine lv_aload_n hx hb dX1_place_47 rfl (lv_at hl 0 rfl) ?_
          refine va_get (D := D) (ci := 1) (v := .ref (q 2)) (C := RX1) (T := TX1) (N := 7) hx hb hts hin hown hK hP 0 rfl rfl 2 (by decide) (hts (.fieldLink RX1 13 "ReferredNamesModel" "bytes" "[I") (by decide +kernel)) (fun _ h9 => h9) rfl dX1_place_48 ?_
          refine lv_bipush (v := nI 60) hx hb dX1_place_51 (by decide) ?_
          refine lv_iload_n hx hb dX1_place_53 rfl (lv_at hl 2 rfl) ?_
          refine lv_imul hx hb dX1_place_54 ?_
          refine rb_top (y := nI (j * 60)) (by rw [pk_mul, Nat.mul_comm]) ?_
          refine lv_iload hx hb dX1_place_55 (lv_at hl 4 rfl) ?_
          refine lv_iadd hx hb dX1_place_57 ?_
          refine rb_top (y := nI ((j * 60) + i)) (nI_add (j * 60) i) ?_
          refine rb_ild hx hb hK hP 2 1 rfl rfl (i := (j * 60) + i) (by omega) (by decide) dX1_place_58 ?_
          refine lv_aload_n hx hb dX1_place_59 rfl (lv_at hl 0 rfl) ?_
          refine va_get (D := D) (ci := 1) (v := .ref (q 1)) (C := RX1) (T := TX1) (N := 7) hx hb hts hin hown hK hP 0 rfl rfl 0 (by decide) (hts (.fieldLink RX1 7 "ReferredNamesModel" "hand" "[I") (by decide +kernel)) (fun _ h9 => h9) rfl dX1_place_60 ?_
          refine lv_iload hx hb dX1_place_63 (lv_at hl 4 rfl) ?_
          refine rb_ild hx hb hK hP 1 0 rfl rfl (i := i) (by omega) (by decide) dX1_place_65 ?_
          refine lv_icmp_ne (tgt := 73) hx hb dX1_place_66 (by decide) (fun c4 => ?_) (fun c4 => ?_)
          · refine lv_iconst (v := nI 0) hx hb dX1_place_73 (by decide) ?_
            refine rb_top (y := rn_b (rn_mq fh n fb fl j (i + 1))) (rn_b0 (rn_mq_d c4)) ?_
            refine lv_istore_n (lv' := [(3, .int (rn_b (rn_mq fh n fb fl j (i + 1)))), (0, .ref h), (1, .int r0), (2, .int (nI j)), (4, .int (nI i))]) hx hb dX1_place_74 rfl hl (by decide) rfl (fun ls hl => ?_)
            refine lv_iinc (v := nI (i + 1)) (lv' := [(4, .int (nI (i + 1))), (3, .int (rn_b (rn_mq fh n fb fl j (i + 1)))), (0, .ref h), (1, .int r0), (2, .int (nI j))]) hx hb dX1_place_75 hl (k := 4) rfl (nI_1 i) (by decide) rfl (fun ls hl => ?_)
            refine lv_goto (tgt := 34) hx hb dX1_place_78 (by decide) ?_
            exact ih (i + 1) j r0 ls (by omega) hj hc (lv_sub hl [2, 3, 4, 1, 0] rfl)
          · refine lv_iconst (v := nI 1) hx hb dX1_place_69 (by decide) ?_
            refine lv_goto (tgt := 74) hx hb dX1_place_70 (by decide) ?_
            refine rb_top (y := rn_b (rn_mq fh n fb fl j (i + 1))) (rn_b1 (rn_mq_s (hbb _) (hby _) (rn_b_ne c3) c4)) ?_
            refine lv_istore_n (lv' := [(3, .int (rn_b (rn_mq fh n fb fl j (i + 1)))), (0, .ref h), (1, .int r0), (2, .int (nI j)), (4, .int (nI i))]) hx hb dX1_place_74 rfl hl (by decide) rfl (fun ls hl => ?_)
            refine lv_iinc (v := nI (i + 1)) (lv' := [(4, .int (nI (i + 1))), (3, .int (rn_b (rn_mq fh n fb fl j (i + 1)))), (0, .ref h), (1, .int r0), (2, .int (nI j))]) hx hb dX1_place_75 hl (k := 4) rfl (nI_1 i) (by decide) rfl (fun ls hl => ?_)
            refine lv_goto (tgt := 34) hx hb dX1_place_78 (by decide) ?_
            exact ih (i + 1) j r0 ls (by omega) hj hc (lv_sub hl [2, 3, 4, 1, 0] rfl)
  have loop : ∀ (f : Nat) (j : Nat) (r0 : Int32) (ls : Array Slot), j + f = k → r0 = rn_ff (rn_mt fh n fb fl) j 0 → lv_has ls 5 [(0, .ref h), (1, .int r0), (2, .int (nI j))] → W p l e rmX1_place s m args below meth c s.heap [] 0 0 Q (F0 m 4 ls []) := by
    intro f
    induction f with
    | zero =>
      intro j r0 ls hj hr hl
      refine lv_iload_n hx hb dX1_place_4 rfl (lv_at hl 2 rfl) ?_
      refine lv_aload_n hx hb dX1_place_5 rfl (lv_at hl 0 rfl) ?_
      refine va_get (D := D) (ci := 1) (v := .int (nI k)) (C := RX1) (T := TX1) (N := 7) hx hb hts hin hown hK hP 0 rfl rfl 6 (by decide) (hts (.fieldLink RX1 31 "ReferredNamesModel" "known" "I") (by decide +kernel)) (fun _ h9 => h9) rfl dX1_place_6 ?_
      refine lv_icmp_ge (tgt := 97) hx hb dX1_place_9 (by decide) (fun c0 => ?_) (fun c0 => ?_)
      · rw [nI_leI (by omega) (by omega)] at c0
        refine lv_iload_n hx hb dX1_place_97 rfl (lv_at hl 1 rfl) ?_
        exact rb_top (by rw [hr, show j = k by omega]) (hret _ _ dX1_place_98)
      · rw [nI_leI (by omega) (by omega)] at c0
        exfalso; omega
    | succ f ih =>
      intro j r0 ls hj hr hl
      refine lv_iload_n hx hb dX1_place_4 rfl (lv_at hl 2 rfl) ?_
      refine lv_aload_n hx hb dX1_place_5 rfl (lv_at hl 0 rfl) ?_
      refine va_get (D := D) (ci := 1) (v := .int (nI k)) (C := RX1) (T := TX1) (N := 7) hx hb hts hin hown hK hP 0 rfl rfl 6 (by decide) (hts (.fieldLink RX1 31 "ReferredNamesModel" "known" "I") (by decide +kernel)) (fun _ h9 => h9) rfl dX1_place_6 ?_
      refine lv_icmp_ge (tgt := 97) hx hb dX1_place_9 (by decide) (fun c0 => ?_) (fun c0 => ?_)
      · rw [nI_leI (by omega) (by omega)] at c0
        exfalso; omega
      · rw [nI_leI (by omega) (by omega)] at c0
        refine lv_aload_n hx hb dX1_place_12 rfl (lv_at hl 0 rfl) ?_
        refine va_get (D := D) (ci := 1) (v := .ref (q 3)) (C := RX1) (T := TX1) (N := 7) hx hb hts hin hown hK hP 0 rfl rfl 3 (by decide) (hts (.fieldLink RX1 16 "ReferredNamesModel" "sizes" "[I") (by decide +kernel)) (fun _ h9 => h9) rfl dX1_place_13 ?_
        refine lv_iload_n hx hb dX1_place_16 rfl (lv_at hl 2 rfl) ?_
        refine rb_ild hx hb hK hP 3 2 rfl rfl (i := j) (by omega) (by decide) dX1_place_17 ?_
        refine lv_aload_n hx hb dX1_place_18 rfl (lv_at hl 0 rfl) ?_
        refine va_get (D := D) (ci := 1) (v := .int (nI n)) (C := RX1) (T := TX1) (N := 7) hx hb hts hin hown hK hP 0 rfl rfl 1 (by decide) (hts (.fieldLink RX1 25 "ReferredNamesModel" "inHand" "I") (by decide +kernel)) (fun _ h9 => h9) rfl dX1_place_19 ?_
        refine lv_icmp_ne (tgt := 29) hx hb dX1_place_22 (by decide) (fun c1 => ?_) (fun c1 => ?_)
        · refine lv_iconst (v := nI 0) hx hb dX1_place_29 (by decide) ?_
          refine rb_top (y := rn_b (rn_mq fh n fb fl j 0)) (rn_b0 (rn_mq_0f c1)) ?_
          refine lv_istore_n (lv' := [(3, .int (rn_b (rn_mq fh n fb fl j 0))), (0, .ref h), (1, .int r0), (2, .int (nI j))]) hx hb dX1_place_30 rfl hl (by decide) rfl (fun ls hl => ?_)
          refine lv_iconst (v := nI 0) hx hb dX1_place_31 (by decide) ?_
          refine lv_istore (lv' := [(4, .int (nI 0)), (3, .int (rn_b (rn_mq fh n fb fl j 0))), (0, .ref h), (1, .int r0), (2, .int (nI j))]) hx hb dX1_place_32 hl (by decide) rfl (fun ls hl => ?_)
          refine inner n 0 j r0 ls (by omega) (by omega) (fun ls hl => ?_) (lv_sub hl [2, 3, 4, 1, 0] rfl)
          refine lv_iload_n hx hb dX1_place_81 rfl (lv_at hl 3 rfl) ?_
          refine lv_if_eq (tgt := 89) hx hb dX1_place_82 (by decide) (fun c5 => ?_) (fun c5 => ?_)
          · refine lv_iload_n hx hb dX1_place_89 rfl (lv_at hl 1 rfl) ?_
            refine lv_istore_n (lv' := [(1, .int r0), (0, .ref h), (2, .int (nI j)), (3, .int (rn_b (rn_mt fh n fb fl j)))]) hx hb dX1_place_90 rfl hl (by decide) rfl (fun ls hl => ?_)
            refine lv_iinc (v := nI (j + 1)) (lv' := [(2, .int (nI (j + 1))), (1, .int r0), (0, .ref h), (3, .int (rn_b (rn_mt fh n fb fl j)))]) hx hb dX1_place_91 hl (k := 2) rfl (nI_1 j) (by decide) rfl (fun ls hl => ?_)
            refine lv_goto (tgt := 4) hx hb dX1_place_94 (by decide) ?_
            exact ih (j + 1) (r0) ls (by omega) (hr.trans (rn_sn_f (rn_b_eq c5)).symm) (lv_sub hl [2, 1, 0] rfl)
          · refine lv_iload_n hx hb dX1_place_85 rfl (lv_at hl 2 rfl) ?_
            refine lv_goto (tgt := 90) hx hb dX1_place_86 (by decide) ?_
            refine lv_istore_n (lv' := [(1, .int (nI j)), (0, .ref h), (2, .int (nI j)), (3, .int (rn_b (rn_mt fh n fb fl j)))]) hx hb dX1_place_90 rfl hl (by decide) rfl (fun ls hl => ?_)
            refine lv_iinc (v := nI (j + 1)) (lv' := [(2, .int (nI (j + 1))), (1, .int (nI j)), (0, .ref h), (3, .int (rn_b (rn_mt fh n fb fl j)))]) hx hb dX1_place_91 hl (k := 2) rfl (nI_1 j) (by decide) rfl (fun ls hl => ?_)
            refine lv_goto (tgt := 4) hx hb dX1_place_94 (by decide) ?_
            exact ih (j + 1) (nI j) ls (by omega) ((rn_sn_t (by omega) hu (rn_b_ne c5)).symm) (lv_sub hl [2, 1, 0] rfl)
        · refine lv_iconst (v := nI 1) hx hb dX1_place_25 (by decide) ?_
          refine lv_goto (tgt := 30) hx hb dX1_place_26 (by decide) ?_
          refine rb_top (y := rn_b (rn_mq fh n fb fl j 0)) (rn_b1 (rn_mq_0t c1)) ?_
          refine lv_istore_n (lv' := [(3, .int (rn_b (rn_mq fh n fb fl j 0))), (0, .ref h), (1, .int r0), (2, .int (nI j))]) hx hb dX1_place_30 rfl hl (by decide) rfl (fun ls hl => ?_)
          refine lv_iconst (v := nI 0) hx hb dX1_place_31 (by decide) ?_
          refine lv_istore (lv' := [(4, .int (nI 0)), (3, .int (rn_b (rn_mq fh n fb fl j 0))), (0, .ref h), (1, .int r0), (2, .int (nI j))]) hx hb dX1_place_32 hl (by decide) rfl (fun ls hl => ?_)
          refine inner n 0 j r0 ls (by omega) (by omega) (fun ls hl => ?_) (lv_sub hl [2, 3, 4, 1, 0] rfl)
          refine lv_iload_n hx hb dX1_place_81 rfl (lv_at hl 3 rfl) ?_
          refine lv_if_eq (tgt := 89) hx hb dX1_place_82 (by decide) (fun c5 => ?_) (fun c5 => ?_)
          · refine lv_iload_n hx hb dX1_place_89 rfl (lv_at hl 1 rfl) ?_
            refine lv_istore_n (lv' := [(1, .int r0), (0, .ref h), (2, .int (nI j)), (3, .int (rn_b (rn_mt fh n fb fl j)))]) hx hb dX1_place_90 rfl hl (by decide) rfl (fun ls hl => ?_)
            refine lv_iinc (v := nI (j + 1)) (lv' := [(2, .int (nI (j + 1))), (1, .int r0), (0, .ref h), (3, .int (rn_b (rn_mt fh n fb fl j)))]) hx hb dX1_place_91 hl (k := 2) rfl (nI_1 j) (by decide) rfl (fun ls hl => ?_)
            refine lv_goto (tgt := 4) hx hb dX1_place_94 (by decide) ?_
            exact ih (j + 1) (r0) ls (by omega) (hr.trans (rn_sn_f (rn_b_eq c5)).symm) (lv_sub hl [2, 1, 0] rfl)
          · refine lv_iload_n hx hb dX1_place_85 rfl (lv_at hl 2 rfl) ?_
            refine lv_goto (tgt := 90) hx hb dX1_place_86 (by decide) ?_
            refine lv_istore_n (lv' := [(1, .int (nI j)), (0, .ref h), (2, .int (nI j)), (3, .int (rn_b (rn_mt fh n fb fl j)))]) hx hb dX1_place_90 rfl hl (by decide) rfl (fun ls hl => ?_)
            refine lv_iinc (v := nI (j + 1)) (lv' := [(2, .int (nI (j + 1))), (1, .int (nI j)), (0, .ref h), (3, .int (rn_b (rn_mt fh n fb fl j)))]) hx hb dX1_place_91 hl (k := 2) rfl (nI_1 j) (by decide) rfl (fun ls hl => ?_)
            refine lv_goto (tgt := 4) hx hb dX1_place_94 (by decide) ?_
            exact ih (j + 1) (nI j) ls (by omega) ((rn_sn_t (by omega) hu (rn_b_ne c5)).symm) (lv_sub hl [2, 1, 0] rfl)
  refine lv_iconst (v := (-1)) hx hb dX1_place_0 (by decide) ?_
  refine lv_istore_n (lv' := [(1, .int ((-1))), (0, .ref h)]) hx hb dX1_place_1 rfl hl (by decide) rfl (fun ls hl => ?_)
  refine lv_iconst (v := nI 0) hx hb dX1_place_2 (by decide) ?_
  refine lv_istore_n (lv' := [(2, .int (nI 0)), (1, .int ((-1))), (0, .ref h)]) hx hb dX1_place_3 rfl hl (by decide) rfl (fun ls hl => ?_)
  exact loop k 0 (-1) ls (by omega) rfl (lv_sub hl [2, 1, 0] rfl)
abbrev rmX1_find : Room := { frames := 1, cells := 0, slots := 0, locals := 24 }
set_option maxHeartbeats 4000000 in
set_option maxRecDepth 100000 in
theorem kX1_find (l : Launch) (D : va_G) (h : Nat) (q : Nat → Nat) (cs : Nat → ClassId) (fh : Nat → Int32) (n : Nat) (fb fl fg fr : Nat → Int32) (k : Nat) (hn : n ≤ 60) (hk : k ≤ 200) (hby : ∀ i, (fh i).toInt8.toInt32 = fh i) (hbb : ∀ i, (fb i).toInt8.toInt32 = fb i) (hu : ∀ a b, a < b → b < k → rn_mt fh n fb fl a = true → rn_mt fh n fb fl b = true → False) (hln : ∀ j, j < k → ∃ y : Nat, 1 ≤ y ∧ y ≤ 60 ∧ fl j = nI y) : Met l yX1_find wsX1_find rmX1_find (rd_P D vwCl (tM cs) [.ref h] (wM h q cs fh n fb fl fg fr k)) (QcRead (rn_ff (rn_mt fh n fb fl) k 0)) 0 0 (fun _ => False) := by
  refine rd_of (cc := cX1_find) (maxL := 1) (ty := .int) (by decide) rfl rfl (Nat.le_of_ble_eq_true rfl) ?_
  intro p e s m args below meth c ls Q hx hb hml hown hts hK hP hl hret
  have hown : s.vm.findClass RX1 = some m.cls := hown
  have hin : ∀ w ∈ wsX10, w ∈ wsX1_find := by decide +kernel
  have hl : lv_has ls 1 [(0, .ref h)] := hl
  refine lv_aload_n hx hb dX1_find_0 rfl (lv_at hl 0 rfl) ?_
  refine va_get (D := D) (ci := 1) (v := .int (nI n)) (C := RX1) (T := TX1) (N := 7) hx hb hts hin hown hK hP 0 rfl rfl 1 (by decide) (hts (.fieldLink RX1 25 "ReferredNamesModel" "inHand" "I") (by decide +kernel)) (fun _ h9 => h9) rfl dX1_find_1 ?_
  refine lv_if_ne (tgt := 11) hx hb dX1_find_4 (by decide) (fun c0 => ?_) (fun c0 => ?_)
  · rw [show (0 : Int32) = nI 0 from rfl] at c0
    rw [nI_eq (by omega) (by omega)] at c0
    refine lv_aload_n hx hb dX1_find_11 rfl (lv_at hl 0 rfl) ?_
    refine rd_call (ci := 1) (b := h) (As := []) (rest := []) ⟨hx, hb, hml, hown, hts⟩ (kX1_place l D h q cs fh n fb fl fg fr k (by omega) (by omega) hby hbb hu) (cwV 0 hts gX1_find_X1_place rfl rfl rfl (by decide +kernel) ⟨Nat.le_of_ble_eq_true rfl, Nat.le_of_ble_eq_true rfl⟩) hK hP rfl rfl rfl rfl hl.1 rfl (Nat.le_of_ble_eq_true rfl) dX1_find_12 ⟨Nat.zero_le _, Nat.zero_le _⟩ ?_
    exact rb_top rfl (hret _ _ dX1_find_15)
  · rw [show (0 : Int32) = nI 0 from rfl] at c0
    rw [nI_eq (by omega) (by omega)] at c0
    refine lv_iconst (v := (-1)) hx hb dX1_find_7 (by decide) ?_
    refine lv_goto (tgt := 15) hx hb dX1_find_8 (by decide) ?_
    exact rb_top ((rn_ff_nil k 0 (fun x _ hx9 => decide_eq_false (fun q9 => by
      obtain ⟨y, hy1, hy2, ey⟩ := hln x (by omega)
      rw [ey, c0, nI_eq (by omega) (by omega)] at q9
      omega))).symm) (hret _ _ dX1_find_15)
abbrev rmX1_look : Room := { frames := 2, cells := 0, slots := 0, locals := 44 }
set_option maxHeartbeats 4000000 in
set_option maxRecDepth 100000 in
theorem kX1_look (l : Launch) (D : va_G) (h : Nat) (q : Nat → Nat) (cs : Nat → ClassId) (fh : Nat → Int32) (n : Nat) (fb fl fg fr : Nat → Int32) (k : Nat) (hn : n ≤ 60) (hk : k ≤ 200) (x : Int32) (w : Int32) (hr0 : ∀ j, j < k → ∃ y : Nat, y < 2 ^ 30 ∧ fr j = nI y) : Met l yX1_look wsX1_look rmX1_look (rd_P D vwCl (tM cs) [.ref h, .int x, .int w] (wM h q cs fh n fb fl fg fr k)) (QcRead (rn_look fl fg fr k x w)) 0 0 (fun _ => False) := by
  refine rd_of (cc := cX1_look) (maxL := 3) (ty := .int) (by decide) rfl rfl (Nat.le_of_ble_eq_true rfl) ?_
  intro p e s m args below meth c ls Q hx hb hml hown hts hK hP hl hret
  have hown : s.vm.findClass RX1 = some m.cls := hown
  have hin : ∀ w ∈ wsX10, w ∈ wsX1_look := by decide +kernel
  have hl : lv_has ls 3 [(0, .ref h), (1, .int x), (2, .int w)] := hl
  refine lv_iload_n hx hb dX1_look_0 rfl (lv_at hl 1 rfl) ?_
  refine lv_if_lt (tgt := 21) hx hb dX1_look_1 (by decide) (fun c0 => ?_) (fun c0 => ?_)
  · refine lv_iconst (v := (-1)) hx hb dX1_look_21 (by decide) ?_
    exact rb_top ((rn_look_f (rn_kn_f1 c0)).symm) (hret _ _ dX1_look_22)
  · refine lv_iload_n hx hb dX1_look_4 rfl (lv_at hl 1 rfl) ?_
    refine lv_aload_n hx hb dX1_look_5 rfl (lv_at hl 0 rfl) ?_
    refine va_get (D := D) (ci := 1) (v := .int (nI k)) (C := RX1) (T := TX1) (N := 7) hx hb hts hin hown hK hP 0 rfl rfl 6 (by decide) (hts (.fieldLink RX1 31 "ReferredNamesModel" "known" "I") (by decide +kernel)) (fun _ h9 => h9) rfl dX1_look_6 ?_
    refine lv_icmp_ge (tgt := 21) hx hb dX1_look_9 (by decide) (fun c1 => ?_) (fun c1 => ?_)
    · refine lv_iconst (v := (-1)) hx hb dX1_look_21 (by decide) ?_
      exact rb_top ((rn_look_f (rn_kn_f2 c1)).symm) (hret _ _ dX1_look_22)
    · obtain ⟨j, hj, rfl⟩ := rn_kn_t (by omega) (rn_kn_tt c0 c1)
      refine lv_iload_n hx hb dX1_look_12 rfl (lv_at hl 2 rfl) ?_
      refine lv_if_lt (tgt := 21) hx hb dX1_look_13 (by decide) (fun c2 => ?_) (fun c2 => ?_)
      · refine lv_iconst (v := (-1)) hx hb dX1_look_21 (by decide) ?_
        exact rb_top ((rn_look_d (rn_out4 (Or.inl c2))).symm) (hret _ _ dX1_look_22)
      · refine lv_iload_n hx hb dX1_look_16 rfl (lv_at hl 2 rfl) ?_
        refine lv_iconst (v := nI 3) hx hb dX1_look_17 (by decide) ?_
        refine lv_icmp_le (tgt := 23) hx hb dX1_look_18 (by decide) (fun c3 => ?_) (fun c3 => ?_)
        · have hw : ∃ y : Nat, y < 4 ∧ w = nI y := rn_03 c2 c3
          obtain ⟨y, hy, rfl⟩ := hw
          rcases (show y = 0 ∨ y = 1 ∨ y = 2 ∨ y = 3 by omega) with rfl | rfl | rfl | rfl
          · refine lv_iload_n hx hb dX1_look_23 rfl (lv_at hl 2 rfl) ?_
            refine lv_iconst (v := nI 3) hx hb dX1_look_24 (by decide) ?_
            refine lv_icmp_ne (tgt := 36) hx hb dX1_look_25 (by decide) (fun c4 => ?_) (fun c4 => ?_)
            · rw [nI_eq (by omega) (by omega)] at c4
              refine lv_iload_n hx hb dX1_look_36 rfl (lv_at hl 2 rfl) ?_
              refine lv_if_ne (tgt := 49) hx hb dX1_look_37 (by decide) (fun c5 => ?_) (fun c5 => ?_)
              · rw [show (0 : Int32) = nI 0 from rfl] at c5
                rw [nI_eq (by omega) (by omega)] at c5
                exact absurd rfl c5
              · rw [show (0 : Int32) = nI 0 from rfl] at c5
                rw [nI_eq (by omega) (by omega)] at c5
                refine lv_aload_n hx hb dX1_look_40 rfl (lv_at hl 0 rfl) ?_
                refine va_get (D := D) (ci := 1) (v := .ref (q 4)) (C := RX1) (T := TX1) (N := 7) hx hb hts hin hown hK hP 0 rfl rfl 4 (by decide) (hts (.fieldLink RX1 19 "ReferredNamesModel" "given" "[I") (by decide +kernel)) (fun _ h9 => h9) rfl dX1_look_41 ?_
                refine lv_iload_n hx hb dX1_look_44 rfl (lv_at hl 1 rfl) ?_
                refine rb_ild hx hb hK hP 4 3 rfl rfl (i := j) (by omega) (by decide) dX1_look_45 ?_
                refine lv_goto (tgt := 69) hx hb dX1_look_46 (by decide) ?_
                exact rb_top ((rn_look_0 hj (by omega)).symm) (hret _ _ dX1_look_69)
            · rw [nI_eq (by omega) (by omega)] at c4
              exfalso; omega
          · refine lv_iload_n hx hb dX1_look_23 rfl (lv_at hl 2 rfl) ?_
            refine lv_iconst (v := nI 3) hx hb dX1_look_24 (by decide) ?_
            refine lv_icmp_ne (tgt := 36) hx hb dX1_look_25 (by decide) (fun c4 => ?_) (fun c4 => ?_)
            · rw [nI_eq (by omega) (by omega)] at c4
              refine lv_iload_n hx hb dX1_look_36 rfl (lv_at hl 2 rfl) ?_
              refine lv_if_ne (tgt := 49) hx hb dX1_look_37 (by decide) (fun c5 => ?_) (fun c5 => ?_)
              · rw [show (0 : Int32) = nI 0 from rfl] at c5
                rw [nI_eq (by omega) (by omega)] at c5
                refine lv_iload_n hx hb dX1_look_49 rfl (lv_at hl 2 rfl) ?_
                refine lv_iconst (v := nI 1) hx hb dX1_look_50 (by decide) ?_
                refine lv_icmp_ne (tgt := 63) hx hb dX1_look_51 (by decide) (fun c6 => ?_) (fun c6 => ?_)
                · rw [nI_eq (by omega) (by omega)] at c6
                  exact absurd rfl c6
                · rw [nI_eq (by omega) (by omega)] at c6
                  refine lv_aload_n hx hb dX1_look_54 rfl (lv_at hl 0 rfl) ?_
                  refine va_get (D := D) (ci := 1) (v := .ref (q 5)) (C := RX1) (T := TX1) (N := 7) hx hb hts hin hown hK hP 0 rfl rfl 5 (by decide) (hts (.fieldLink RX1 22 "ReferredNamesModel" "referred" "[I") (by decide +kernel)) (fun _ h9 => h9) rfl dX1_look_55 ?_
                  refine lv_iload_n hx hb dX1_look_58 rfl (lv_at hl 1 rfl) ?_
                  refine rb_ild hx hb hK hP 5 4 rfl rfl (i := j) (by omega) (by decide) dX1_look_59 ?_
                  refine lv_goto (tgt := 69) hx hb dX1_look_60 (by decide) ?_
                  exact rb_top ((rn_look_1 hj (by omega)).symm) (hret _ _ dX1_look_69)
              · rw [show (0 : Int32) = nI 0 from rfl] at c5
                rw [nI_eq (by omega) (by omega)] at c5
                exfalso; omega
            · rw [nI_eq (by omega) (by omega)] at c4
              exfalso; omega
          · refine lv_iload_n hx hb dX1_look_23 rfl (lv_at hl 2 rfl) ?_
            refine lv_iconst (v := nI 3) hx hb dX1_look_24 (by decide) ?_
            refine lv_icmp_ne (tgt := 36) hx hb dX1_look_25 (by decide) (fun c4 => ?_) (fun c4 => ?_)
            · rw [nI_eq (by omega) (by omega)] at c4
              refine lv_iload_n hx hb dX1_look_36 rfl (lv_at hl 2 rfl) ?_
              refine lv_if_ne (tgt := 49) hx hb dX1_look_37 (by decide) (fun c5 => ?_) (fun c5 => ?_)
              · rw [show (0 : Int32) = nI 0 from rfl] at c5
                rw [nI_eq (by omega) (by omega)] at c5
                refine lv_iload_n hx hb dX1_look_49 rfl (lv_at hl 2 rfl) ?_
                refine lv_iconst (v := nI 1) hx hb dX1_look_50 (by decide) ?_
                refine lv_icmp_ne (tgt := 63) hx hb dX1_look_51 (by decide) (fun c6 => ?_) (fun c6 => ?_)
                · rw [nI_eq (by omega) (by omega)] at c6
                  refine lv_aload_n hx hb dX1_look_63 rfl (lv_at hl 0 rfl) ?_
                  refine va_get (D := D) (ci := 1) (v := .ref (q 3)) (C := RX1) (T := TX1) (N := 7) hx hb hts hin hown hK hP 0 rfl rfl 3 (by decide) (hts (.fieldLink RX1 16 "ReferredNamesModel" "sizes" "[I") (by decide +kernel)) (fun _ h9 => h9) rfl dX1_look_64 ?_
                  refine lv_iload_n hx hb dX1_look_67 rfl (lv_at hl 1 rfl) ?_
                  refine rb_ild hx hb hK hP 3 2 rfl rfl (i := j) (by omega) (by decide) dX1_look_68 ?_
                  exact rb_top ((rn_look_2 hj (by omega)).symm) (hret _ _ dX1_look_69)
                · rw [nI_eq (by omega) (by omega)] at c6
                  exfalso; omega
              · rw [show (0 : Int32) = nI 0 from rfl] at c5
                rw [nI_eq (by omega) (by omega)] at c5
                exfalso; omega
            · rw [nI_eq (by omega) (by omega)] at c4
              exfalso; omega
          · refine lv_iload_n hx hb dX1_look_23 rfl (lv_at hl 2 rfl) ?_
            refine lv_iconst (v := nI 3) hx hb dX1_look_24 (by decide) ?_
            refine lv_icmp_ne (tgt := 36) hx hb dX1_look_25 (by decide) (fun c4 => ?_) (fun c4 => ?_)
            · rw [nI_eq (by omega) (by omega)] at c4
              exact absurd rfl c4
            · rw [nI_eq (by omega) (by omega)] at c4
              refine lv_aload_n hx hb dX1_look_28 rfl (lv_at hl 0 rfl) ?_
              refine lv_iload_n hx hb dX1_look_29 rfl (lv_at hl 1 rfl) ?_
              refine lv_iconst (v := nI 1) hx hb dX1_look_30 (by decide) ?_
              refine lv_iadd hx hb dX1_look_31 ?_
              refine rb_top (y := nI (j + 1)) (nI_add j 1) ?_
              refine rd_call (ci := 1) (b := h) (As := [.int (nI (j + 1))]) (rest := []) ⟨hx, hb, hml, hown, hts⟩ (kX1_missingFrom l D h q cs fh n fb fl fg fr k (by omega) (by omega) (j + 1) (by omega) hr0) (cwV 1 hts gX1_look_X1_missingFrom rfl rfl rfl (by decide +kernel) ⟨Nat.le_of_ble_eq_true rfl, Nat.le_of_ble_eq_true rfl⟩) hK hP rfl rfl rfl rfl hl.1 rfl (Nat.le_of_ble_eq_true rfl) dX1_look_32 ⟨Nat.zero_le _, Nat.zero_le _⟩ ?_
              exact rb_top ((rn_look_3 hj (by omega)).symm) (hret _ _ dX1_look_35)
        · refine lv_iconst (v := (-1)) hx hb dX1_look_21 (by decide) ?_
          exact rb_top ((rn_look_d (rn_out4 (Or.inr c3))).symm) (hret _ _ dX1_look_22)
abbrev rmX1_byteOf : Room := { frames := 0, cells := 0, slots := 0, locals := 0 }
set_option maxHeartbeats 4000000 in
set_option maxRecDepth 100000 in
theorem kX1_byteOf (l : Launch) (D : va_G) (h : Nat) (q : Nat → Nat) (cs : Nat → ClassId) (fh : Nat → Int32) (n : Nat) (fb fl fg fr : Nat → Int32) (k : Nat) (hn : n ≤ 60) (hk : k ≤ 200) (x : Int32) (i : Int32) (hln : ∀ j, j < k → ∃ y : Nat, y ≤ 60 ∧ fl j = nI y) : Met l yX1_byteOf wsX1_byteOf rmX1_byteOf (rd_P D vwCl (tM cs) [.ref h, .int x, .int i] (wM h q cs fh n fb fl fg fr k)) (QcRead (rn_bo fb fl k x i)) 0 0 (fun _ => False) := by
  refine rd_of (cc := cX1_byteOf) (maxL := 3) (ty := .int) (by decide) rfl rfl (Nat.le_of_ble_eq_true rfl) ?_
  intro p e s m args below meth c ls Q hx hb hml hown hts hK hP hl hret
  have hown : s.vm.findClass RX1 = some m.cls := hown
  have hin : ∀ w ∈ wsX10, w ∈ wsX1_byteOf := by decide +kernel
  have hl : lv_has ls 3 [(0, .ref h), (1, .int x), (2, .int i)] := hl
  refine lv_iload_n hx hb dX1_byteOf_0 rfl (lv_at hl 1 rfl) ?_
  refine lv_if_lt (tgt := 26) hx hb dX1_byteOf_1 (by decide) (fun c0 => ?_) (fun c0 => ?_)
  · refine lv_iconst (v := (-1)) hx hb dX1_byteOf_26 (by decide) ?_
    exact rb_top ((rn_bo_f (fun q9 => by rw [rn_kn_f1 c0] at q9; exact absurd q9.1 (by decide))).symm) (hret _ _ dX1_byteOf_27)
  · refine lv_iload_n hx hb dX1_byteOf_4 rfl (lv_at hl 1 rfl) ?_
    refine lv_aload_n hx hb dX1_byteOf_5 rfl (lv_at hl 0 rfl) ?_
    refine va_get (D := D) (ci := 1) (v := .int (nI k)) (C := RX1) (T := TX1) (N := 7) hx hb hts hin hown hK hP 0 rfl rfl 6 (by decide) (hts (.fieldLink RX1 31 "ReferredNamesModel" "known" "I") (by decide +kernel)) (fun _ h9 => h9) rfl dX1_byteOf_6 ?_
    refine lv_icmp_ge (tgt := 26) hx hb dX1_byteOf_9 (by decide) (fun c1 => ?_) (fun c1 => ?_)
    · refine lv_iconst (v := (-1)) hx hb dX1_byteOf_26 (by decide) ?_
      exact rb_top ((rn_bo_f (fun q9 => by rw [rn_kn_f2 c1] at q9; exact absurd q9.1 (by decide))).symm) (hret _ _ dX1_byteOf_27)
    · obtain ⟨j, hj, rfl⟩ := rn_kn_t (by omega) (rn_kn_tt c0 c1)
      refine lv_iload_n hx hb dX1_byteOf_12 rfl (lv_at hl 2 rfl) ?_
      refine lv_if_lt (tgt := 26) hx hb dX1_byteOf_13 (by decide) (fun c2 => ?_) (fun c2 => ?_)
      · refine lv_iconst (v := (-1)) hx hb dX1_byteOf_26 (by decide) ?_
        exact rb_top ((rn_bo_f (fun q9 => q9.2.1 c2)).symm) (hret _ _ dX1_byteOf_27)
      · refine lv_iload_n hx hb dX1_byteOf_16 rfl (lv_at hl 2 rfl) ?_
        refine lv_aload_n hx hb dX1_byteOf_17 rfl (lv_at hl 0 rfl) ?_
        refine va_get (D := D) (ci := 1) (v := .ref (q 3)) (C := RX1) (T := TX1) (N := 7) hx hb hts hin hown hK hP 0 rfl rfl 3 (by decide) (hts (.fieldLink RX1 16 "ReferredNamesModel" "sizes" "[I") (by decide +kernel)) (fun _ h9 => h9) rfl dX1_byteOf_18 ?_
        refine lv_iload_n hx hb dX1_byteOf_21 rfl (lv_at hl 1 rfl) ?_
        refine rb_ild hx hb hK hP 3 2 rfl rfl (i := j) (by omega) (by decide) dX1_byteOf_22 ?_
        refine lv_icmp_lt (tgt := 28) hx hb dX1_byteOf_23 (by decide) (fun c3 => ?_) (fun c3 => ?_)
        · obtain ⟨y, hy, ey⟩ := hln j hj
          obtain ⟨z, hz, rfl⟩ := nI_of c2
          have hzy : z < y := by rw [ey, nI_ltI hz (by omega)] at c3; exact c3
          refine lv_aload_n hx hb dX1_byteOf_28 rfl (lv_at hl 0 rfl) ?_
          refine va_get (D := D) (ci := 1) (v := .ref (q 2)) (C := RX1) (T := TX1) (N := 7) hx hb hts hin hown hK hP 0 rfl rfl 2 (by decide) (hts (.fieldLink RX1 13 "ReferredNamesModel" "bytes" "[I") (by decide +kernel)) (fun _ h9 => h9) rfl dX1_byteOf_29 ?_
          refine lv_bipush (v := nI 60) hx hb dX1_byteOf_32 (by decide) ?_
          refine lv_iload_n hx hb dX1_byteOf_34 rfl (lv_at hl 1 rfl) ?_
          refine lv_imul hx hb dX1_byteOf_35 ?_
          refine rb_top (y := nI (j * 60)) (by rw [pk_mul, Nat.mul_comm]) ?_
          refine lv_iload_n hx hb dX1_byteOf_36 rfl (lv_at hl 2 rfl) ?_
          refine lv_iadd hx hb dX1_byteOf_37 ?_
          refine rb_top (y := nI ((j * 60) + z)) (nI_add (j * 60) z) ?_
          refine rb_ild hx hb hK hP 2 1 rfl rfl (i := (j * 60) + z) (by omega) (by decide) dX1_byteOf_38 ?_
          exact rb_top ((rn_bo_t hj (by omega) hz c3).symm) (hret _ _ dX1_byteOf_39)
        · refine lv_iconst (v := (-1)) hx hb dX1_byteOf_26 (by decide) ?_
          exact rb_top ((rn_bo_f (fun q9 => c3 (by have q8 := q9.2.2; rw [nI_clamp (by omega)] at q8; exact q8))).symm) (hret _ _ dX1_byteOf_27)
abbrev rmX1_count : Room := { frames := 2, cells := 0, slots := 0, locals := 44 }
set_option maxHeartbeats 4000000 in
set_option maxRecDepth 100000 in
theorem kX1_count (l : Launch) (D : va_G) (h : Nat) (q : Nat → Nat) (cs : Nat → ClassId) (fh : Nat → Int32) (n : Nat) (fb fl fg fr : Nat → Int32) (k : Nat) (hn : n ≤ 60) (hk : k ≤ 200) (w : Int32) (hg0 : ∀ j, j < k → ∃ y : Nat, y < 2 ^ 30 ∧ fg j = nI y) (hr0 : ∀ j, j < k → ∃ y : Nat, y < 2 ^ 30 ∧ fr j = nI y) : Met l yX1_count wsX1_count rmX1_count (rd_P D vwCl (tM cs) [.ref h, .int w] (wM h q cs fh n fb fl fg fr k)) (QcRead (rn_cnt n fg fr k w)) 0 0 (fun _ => False) := by
  refine rd_of (cc := cX1_count) (maxL := 6) (ty := .int) (by decide) rfl rfl (Nat.le_of_ble_eq_true rfl) ?_
  intro p e s m args below meth c ls Q hx hb hml hown hts hK hP hl hret
  have hown : s.vm.findClass RX1 = some m.cls := hown
  have hin : ∀ w ∈ wsX10, w ∈ wsX1_count := by decide +kernel
  have hl : lv_has ls 6 [(0, .ref h), (1, .int w)] := hl
  have loop : ∀ (f : Nat) (j : Nat) (a1 a2 a3 : Int32) (ls : Array Slot), j + f = k → rn_fo (rn_g1 fg) f j a1 = rn_fo (rn_g1 fg) k 0 0 → rn_fo (rn_g2 fg fr) f j a2 = rn_fo (rn_g2 fg fr) k 0 0 → rn_fo (rn_g3 fg) f j a3 = rn_fo (rn_g3 fg) k 0 0 → lv_has ls 6 [(0, .ref h), (1, .int w), (2, .int a1), (3, .int a2), (4, .int a3), (5, .int (nI j))] → W p l e rmX1_count s m args below meth c s.heap [] 0 0 Q (F0 m 10 ls []) := by
    intro f
    induction f with
    | zero =>
      intro j a1 a2 a3 ls hj h1 h2 h3 hl
      refine lv_iload hx hb dX1_count_10 (lv_at hl 5 rfl) ?_
      refine lv_aload_n hx hb dX1_count_12 rfl (lv_at hl 0 rfl) ?_
      refine va_get (D := D) (ci := 1) (v := .int (nI k)) (C := RX1) (T := TX1) (N := 7) hx hb hts hin hown hK hP 0 rfl rfl 6 (by decide) (hts (.fieldLink RX1 31 "ReferredNamesModel" "known" "I") (by decide +kernel)) (fun _ h9 => h9) rfl dX1_count_13 ?_
      refine lv_icmp_ge (tgt := 90) hx hb dX1_count_16 (by decide) (fun c0 => ?_) (fun c0 => ?_)
      · rw [nI_leI (by omega) (by omega)] at c0
        have e1 : a1 = rn_fo (rn_g1 fg) k 0 0 := h1
        have e2 : a2 = rn_fo (rn_g2 fg fr) k 0 0 := h2
        have e3 : a3 = rn_fo (rn_g3 fg) k 0 0 := h3
        rw [e1, e2, e3] at hl
        have hl := lv_sub hl [0, 1, 2, 3, 4] rfl
        have hl : lv_has ls 6 [(0, .ref h), (1, .int w), (2, .int (rn_fo (rn_g1 fg) k 0 0)), (3, .int (rn_fo (rn_g2 fg fr) k 0 0)), (4, .int (rn_fo (rn_g3 fg) k 0 0))] := hl
        rcases rn_sw (x := w) (n := 6) (by decide) with ⟨y, hy, rfl⟩ | hd
        · rcases (show y = 0 ∨ y = 1 ∨ y = 2 ∨ y = 3 ∨ y = 4 ∨ y = 5 by omega) with rfl | rfl | rfl | rfl | rfl | rfl
          · refine lv_iload_n hx hb dX1_count_90 rfl (lv_at hl 1 rfl) ?_
            refine lv_if_ne (tgt := 101) hx hb dX1_count_91 (by decide) (fun c4 => ?_) (fun c4 => ?_)
            · rw [show (0 : Int32) = nI 0 from rfl] at c4
              rw [nI_eq (by omega) (by omega)] at c4
              exact absurd rfl c4
            · rw [show (0 : Int32) = nI 0 from rfl] at c4
              rw [nI_eq (by omega) (by omega)] at c4
              refine lv_aload_n hx hb dX1_count_94 rfl (lv_at hl 0 rfl) ?_
              refine va_get (D := D) (ci := 1) (v := .int (nI k)) (C := RX1) (T := TX1) (N := 7) hx hb hts hin hown hK hP 0 rfl rfl 6 (by decide) (hts (.fieldLink RX1 31 "ReferredNamesModel" "known" "I") (by decide +kernel)) (fun _ h9 => h9) rfl dX1_count_95 ?_
              refine lv_goto (tgt := 155) hx hb dX1_count_98 (by decide) ?_
              exact rb_top (rn_cnt_0.symm) (hret _ _ dX1_count_155)
          · refine lv_iload_n hx hb dX1_count_90 rfl (lv_at hl 1 rfl) ?_
            refine lv_if_ne (tgt := 101) hx hb dX1_count_91 (by decide) (fun c4 => ?_) (fun c4 => ?_)
            · rw [show (0 : Int32) = nI 0 from rfl] at c4
              rw [nI_eq (by omega) (by omega)] at c4
              refine lv_iload_n hx hb dX1_count_101 rfl (lv_at hl 1 rfl) ?_
              refine lv_iconst (v := nI 1) hx hb dX1_count_102 (by decide) ?_
              refine lv_icmp_ne (tgt := 110) hx hb dX1_count_103 (by decide) (fun c5 => ?_) (fun c5 => ?_)
              · rw [nI_eq (by omega) (by omega)] at c5
                exact absurd rfl c5
              · rw [nI_eq (by omega) (by omega)] at c5
                refine lv_iload_n hx hb dX1_count_106 rfl (lv_at hl 2 rfl) ?_
                refine lv_goto (tgt := 155) hx hb dX1_count_107 (by decide) ?_
                exact rb_top (rn_cnt_1.symm) (hret _ _ dX1_count_155)
            · rw [show (0 : Int32) = nI 0 from rfl] at c4
              rw [nI_eq (by omega) (by omega)] at c4
              exfalso; omega
          · refine lv_iload_n hx hb dX1_count_90 rfl (lv_at hl 1 rfl) ?_
            refine lv_if_ne (tgt := 101) hx hb dX1_count_91 (by decide) (fun c4 => ?_) (fun c4 => ?_)
            · rw [show (0 : Int32) = nI 0 from rfl] at c4
              rw [nI_eq (by omega) (by omega)] at c4
              refine lv_iload_n hx hb dX1_count_101 rfl (lv_at hl 1 rfl) ?_
              refine lv_iconst (v := nI 1) hx hb dX1_count_102 (by decide) ?_
              refine lv_icmp_ne (tgt := 110) hx hb dX1_count_103 (by decide) (fun c5 => ?_) (fun c5 => ?_)
              · rw [nI_eq (by omega) (by omega)] at c5
                refine lv_iload_n hx hb dX1_count_110 rfl (lv_at hl 1 rfl) ?_
                refine lv_iconst (v := nI 2) hx hb dX1_count_111 (by decide) ?_
                refine lv_icmp_ne (tgt := 119) hx hb dX1_count_112 (by decide) (fun c6 => ?_) (fun c6 => ?_)
                · rw [nI_eq (by omega) (by omega)] at c6
                  exact absurd rfl c6
                · rw [nI_eq (by omega) (by omega)] at c6
                  refine lv_iload_n hx hb dX1_count_115 rfl (lv_at hl 3 rfl) ?_
                  refine lv_goto (tgt := 155) hx hb dX1_count_116 (by decide) ?_
                  exact rb_top (rn_cnt_2.symm) (hret _ _ dX1_count_155)
              · rw [nI_eq (by omega) (by omega)] at c5
                exfalso; omega
            · rw [show (0 : Int32) = nI 0 from rfl] at c4
              rw [nI_eq (by omega) (by omega)] at c4
              exfalso; omega
          · refine lv_iload_n hx hb dX1_count_90 rfl (lv_at hl 1 rfl) ?_
            refine lv_if_ne (tgt := 101) hx hb dX1_count_91 (by decide) (fun c4 => ?_) (fun c4 => ?_)
            · rw [show (0 : Int32) = nI 0 from rfl] at c4
              rw [nI_eq (by omega) (by omega)] at c4
              refine lv_iload_n hx hb dX1_count_101 rfl (lv_at hl 1 rfl) ?_
              refine lv_iconst (v := nI 1) hx hb dX1_count_102 (by decide) ?_
              refine lv_icmp_ne (tgt := 110) hx hb dX1_count_103 (by decide) (fun c5 => ?_) (fun c5 => ?_)
              · rw [nI_eq (by omega) (by omega)] at c5
                refine lv_iload_n hx hb dX1_count_110 rfl (lv_at hl 1 rfl) ?_
                refine lv_iconst (v := nI 2) hx hb dX1_count_111 (by decide) ?_
                refine lv_icmp_ne (tgt := 119) hx hb dX1_count_112 (by decide) (fun c6 => ?_) (fun c6 => ?_)
                · rw [nI_eq (by omega) (by omega)] at c6
                  refine lv_iload_n hx hb dX1_count_119 rfl (lv_at hl 1 rfl) ?_
                  refine lv_iconst (v := nI 3) hx hb dX1_count_120 (by decide) ?_
                  refine lv_icmp_ne (tgt := 129) hx hb dX1_count_121 (by decide) (fun c7 => ?_) (fun c7 => ?_)
                  · rw [nI_eq (by omega) (by omega)] at c7
                    exact absurd rfl c7
                  · rw [nI_eq (by omega) (by omega)] at c7
                    refine lv_iload hx hb dX1_count_124 (lv_at hl 4 rfl) ?_
                    refine lv_goto (tgt := 155) hx hb dX1_count_126 (by decide) ?_
                    exact rb_top (rn_cnt_3.symm) (hret _ _ dX1_count_155)
                · rw [nI_eq (by omega) (by omega)] at c6
                  exfalso; omega
              · rw [nI_eq (by omega) (by omega)] at c5
                exfalso; omega
            · rw [show (0 : Int32) = nI 0 from rfl] at c4
              rw [nI_eq (by omega) (by omega)] at c4
              exfalso; omega
          · refine lv_iload_n hx hb dX1_count_90 rfl (lv_at hl 1 rfl) ?_
            refine lv_if_ne (tgt := 101) hx hb dX1_count_91 (by decide) (fun c4 => ?_) (fun c4 => ?_)
            · rw [show (0 : Int32) = nI 0 from rfl] at c4
              rw [nI_eq (by omega) (by omega)] at c4
              refine lv_iload_n hx hb dX1_count_101 rfl (lv_at hl 1 rfl) ?_
              refine lv_iconst (v := nI 1) hx hb dX1_count_102 (by decide) ?_
              refine lv_icmp_ne (tgt := 110) hx hb dX1_count_103 (by decide) (fun c5 => ?_) (fun c5 => ?_)
              · rw [nI_eq (by omega) (by omega)] at c5
                refine lv_iload_n hx hb dX1_count_110 rfl (lv_at hl 1 rfl) ?_
                refine lv_iconst (v := nI 2) hx hb dX1_count_111 (by decide) ?_
                refine lv_icmp_ne (tgt := 119) hx hb dX1_count_112 (by decide) (fun c6 => ?_) (fun c6 => ?_)
                · rw [nI_eq (by omega) (by omega)] at c6
                  refine lv_iload_n hx hb dX1_count_119 rfl (lv_at hl 1 rfl) ?_
                  refine lv_iconst (v := nI 3) hx hb dX1_count_120 (by decide) ?_
                  refine lv_icmp_ne (tgt := 129) hx hb dX1_count_121 (by decide) (fun c7 => ?_) (fun c7 => ?_)
                  · rw [nI_eq (by omega) (by omega)] at c7
                    refine lv_iload_n hx hb dX1_count_129 rfl (lv_at hl 1 rfl) ?_
                    refine lv_iconst (v := nI 4) hx hb dX1_count_130 (by decide) ?_
                    refine lv_icmp_ne (tgt := 141) hx hb dX1_count_131 (by decide) (fun c8 => ?_) (fun c8 => ?_)
                    · rw [nI_eq (by omega) (by omega)] at c8
                      exact absurd rfl c8
                    · rw [nI_eq (by omega) (by omega)] at c8
                      refine lv_aload_n hx hb dX1_count_134 rfl (lv_at hl 0 rfl) ?_
                      refine va_get (D := D) (ci := 1) (v := .int (nI n)) (C := RX1) (T := TX1) (N := 7) hx hb hts hin hown hK hP 0 rfl rfl 1 (by decide) (hts (.fieldLink RX1 25 "ReferredNamesModel" "inHand" "I") (by decide +kernel)) (fun _ h9 => h9) rfl dX1_count_135 ?_
                      refine lv_goto (tgt := 155) hx hb dX1_count_138 (by decide) ?_
                      exact rb_top (rn_cnt_4.symm) (hret _ _ dX1_count_155)
                  · rw [nI_eq (by omega) (by omega)] at c7
                    exfalso; omega
                · rw [nI_eq (by omega) (by omega)] at c6
                  exfalso; omega
              · rw [nI_eq (by omega) (by omega)] at c5
                exfalso; omega
            · rw [show (0 : Int32) = nI 0 from rfl] at c4
              rw [nI_eq (by omega) (by omega)] at c4
              exfalso; omega
          · refine lv_iload_n hx hb dX1_count_90 rfl (lv_at hl 1 rfl) ?_
            refine lv_if_ne (tgt := 101) hx hb dX1_count_91 (by decide) (fun c4 => ?_) (fun c4 => ?_)
            · rw [show (0 : Int32) = nI 0 from rfl] at c4
              rw [nI_eq (by omega) (by omega)] at c4
              refine lv_iload_n hx hb dX1_count_101 rfl (lv_at hl 1 rfl) ?_
              refine lv_iconst (v := nI 1) hx hb dX1_count_102 (by decide) ?_
              refine lv_icmp_ne (tgt := 110) hx hb dX1_count_103 (by decide) (fun c5 => ?_) (fun c5 => ?_)
              · rw [nI_eq (by omega) (by omega)] at c5
                refine lv_iload_n hx hb dX1_count_110 rfl (lv_at hl 1 rfl) ?_
                refine lv_iconst (v := nI 2) hx hb dX1_count_111 (by decide) ?_
                refine lv_icmp_ne (tgt := 119) hx hb dX1_count_112 (by decide) (fun c6 => ?_) (fun c6 => ?_)
                · rw [nI_eq (by omega) (by omega)] at c6
                  refine lv_iload_n hx hb dX1_count_119 rfl (lv_at hl 1 rfl) ?_
                  refine lv_iconst (v := nI 3) hx hb dX1_count_120 (by decide) ?_
                  refine lv_icmp_ne (tgt := 129) hx hb dX1_count_121 (by decide) (fun c7 => ?_) (fun c7 => ?_)
                  · rw [nI_eq (by omega) (by omega)] at c7
                    refine lv_iload_n hx hb dX1_count_129 rfl (lv_at hl 1 rfl) ?_
                    refine lv_iconst (v := nI 4) hx hb dX1_count_130 (by decide) ?_
                    refine lv_icmp_ne (tgt := 141) hx hb dX1_count_131 (by decide) (fun c8 => ?_) (fun c8 => ?_)
                    · rw [nI_eq (by omega) (by omega)] at c8
                      refine lv_iload_n hx hb dX1_count_141 rfl (lv_at hl 1 rfl) ?_
                      refine lv_iconst (v := nI 5) hx hb dX1_count_142 (by decide) ?_
                      refine lv_icmp_ne (tgt := 154) hx hb dX1_count_143 (by decide) (fun c9 => ?_) (fun c9 => ?_)
                      · rw [nI_eq (by omega) (by omega)] at c9
                        exact absurd rfl c9
                      · rw [nI_eq (by omega) (by omega)] at c9
                        refine lv_aload_n hx hb dX1_count_146 rfl (lv_at hl 0 rfl) ?_
                        refine lv_iconst (v := nI 0) hx hb dX1_count_147 (by decide) ?_
                        refine rd_call (ci := 1) (b := h) (As := [.int (nI 0)]) (rest := []) ⟨hx, hb, hml, hown, hts⟩ (kX1_missingFrom l D h q cs fh n fb fl fg fr k (by omega) (by omega) 0 (by omega) hr0) (cwV 1 hts gX1_count_X1_missingFrom rfl rfl rfl (by decide +kernel) ⟨Nat.le_of_ble_eq_true rfl, Nat.le_of_ble_eq_true rfl⟩) hK hP rfl rfl rfl rfl hl.1 rfl (Nat.le_of_ble_eq_true rfl) dX1_count_148 ⟨Nat.zero_le _, Nat.zero_le _⟩ ?_
                        refine lv_goto (tgt := 155) hx hb dX1_count_151 (by decide) ?_
                        exact rb_top (rn_cnt_5.symm) (hret _ _ dX1_count_155)
                    · rw [nI_eq (by omega) (by omega)] at c8
                      exfalso; omega
                  · rw [nI_eq (by omega) (by omega)] at c7
                    exfalso; omega
                · rw [nI_eq (by omega) (by omega)] at c6
                  exfalso; omega
              · rw [nI_eq (by omega) (by omega)] at c5
                exfalso; omega
            · rw [show (0 : Int32) = nI 0 from rfl] at c4
              rw [nI_eq (by omega) (by omega)] at c4
              exfalso; omega
        · refine lv_iload_n hx hb dX1_count_90 rfl (lv_at hl 1 rfl) ?_
          refine lv_if_ne (tgt := 101) hx hb dX1_count_91 (by decide) (fun c4 => ?_) (fun c4 => ?_)
          · refine lv_iload_n hx hb dX1_count_101 rfl (lv_at hl 1 rfl) ?_
            refine lv_iconst (v := nI 1) hx hb dX1_count_102 (by decide) ?_
            refine lv_icmp_ne (tgt := 110) hx hb dX1_count_103 (by decide) (fun c5 => ?_) (fun c5 => ?_)
            · refine lv_iload_n hx hb dX1_count_110 rfl (lv_at hl 1 rfl) ?_
              refine lv_iconst (v := nI 2) hx hb dX1_count_111 (by decide) ?_
              refine lv_icmp_ne (tgt := 119) hx hb dX1_count_112 (by decide) (fun c6 => ?_) (fun c6 => ?_)
              · refine lv_iload_n hx hb dX1_count_119 rfl (lv_at hl 1 rfl) ?_
                refine lv_iconst (v := nI 3) hx hb dX1_count_120 (by decide) ?_
                refine lv_icmp_ne (tgt := 129) hx hb dX1_count_121 (by decide) (fun c7 => ?_) (fun c7 => ?_)
                · refine lv_iload_n hx hb dX1_count_129 rfl (lv_at hl 1 rfl) ?_
                  refine lv_iconst (v := nI 4) hx hb dX1_count_130 (by decide) ?_
                  refine lv_icmp_ne (tgt := 141) hx hb dX1_count_131 (by decide) (fun c8 => ?_) (fun c8 => ?_)
                  · refine lv_iload_n hx hb dX1_count_141 rfl (lv_at hl 1 rfl) ?_
                    refine lv_iconst (v := nI 5) hx hb dX1_count_142 (by decide) ?_
                    refine lv_icmp_ne (tgt := 154) hx hb dX1_count_143 (by decide) (fun c9 => ?_) (fun c9 => ?_)
                    · refine lv_iconst (v := (-1)) hx hb dX1_count_154 (by decide) ?_
                      exact rb_top ((rn_cnt_d hd).symm) (hret _ _ dX1_count_155)
                    · exact absurd c9 (rn_out hd (by decide) (by decide))
                  · exact absurd c8 (rn_out hd (by decide) (by decide))
                · exact absurd c7 (rn_out hd (by decide) (by decide))
              · exact absurd c6 (rn_out hd (by decide) (by decide))
            · exact absurd c5 (rn_out hd (by decide) (by decide))
          · exact absurd c4 (rn_out hd (by decide) (by decide))
      · rw [nI_leI (by omega) (by omega)] at c0
        exfalso; omega
    | succ f ih =>
      intro j a1 a2 a3 ls hj h1 h2 h3 hl
      refine lv_iload hx hb dX1_count_10 (lv_at hl 5 rfl) ?_
      refine lv_aload_n hx hb dX1_count_12 rfl (lv_at hl 0 rfl) ?_
      refine va_get (D := D) (ci := 1) (v := .int (nI k)) (C := RX1) (T := TX1) (N := 7) hx hb hts hin hown hK hP 0 rfl rfl 6 (by decide) (hts (.fieldLink RX1 31 "ReferredNamesModel" "known" "I") (by decide +kernel)) (fun _ h9 => h9) rfl dX1_count_13 ?_
      refine lv_icmp_ge (tgt := 90) hx hb dX1_count_16 (by decide) (fun c0 => ?_) (fun c0 => ?_)
      · rw [nI_leI (by omega) (by omega)] at c0
        exfalso; omega
      · rw [nI_leI (by omega) (by omega)] at c0
        refine lv_aload_n hx hb dX1_count_19 rfl (lv_at hl 0 rfl) ?_
        refine va_get (D := D) (ci := 1) (v := .ref (q 4)) (C := RX1) (T := TX1) (N := 7) hx hb hts hin hown hK hP 0 rfl rfl 4 (by decide) (hts (.fieldLink RX1 19 "ReferredNamesModel" "given" "[I") (by decide +kernel)) (fun _ h9 => h9) rfl dX1_count_20 ?_
        refine lv_iload hx hb dX1_count_23 (lv_at hl 5 rfl) ?_
        refine rb_ild hx hb hK hP 4 3 rfl rfl (i := j) (by omega) (by decide) dX1_count_25 ?_
        refine lv_if_le (tgt := 35) hx hb dX1_count_26 (by decide) (fun c1 => ?_) (fun c1 => ?_)
        · refine lv_iload_n hx hb dX1_count_35 rfl (lv_at hl 2 rfl) ?_
          refine lv_istore_n (lv' := [(2, .int a1), (0, .ref h), (1, .int w), (3, .int a2), (4, .int a3), (5, .int (nI j))]) hx hb dX1_count_36 rfl hl (by decide) rfl (fun ls hl => ?_)
          refine lv_aload_n hx hb dX1_count_37 rfl (lv_at hl 1 rfl) ?_
          refine lv_iload hx hb dX1_count_38 (lv_at hl 5 rfl) ?_
          refine rd_call (ci := 1) (b := h) (As := [.int (nI j)]) (rest := []) ⟨hx, hb, hml, hown, hts⟩ (kX1_isMissing l D h q cs fh n fb fl fg fr k (by omega) (by omega) j (by omega) hr0) (cwV 1 hts gX1_count_X1_isMissing rfl rfl rfl (by decide +kernel) ⟨Nat.le_of_ble_eq_true rfl, Nat.le_of_ble_eq_true rfl⟩) hK hP rfl rfl rfl rfl hl.1 rfl (Nat.le_of_ble_eq_true rfl) dX1_count_40 ⟨Nat.zero_le _, Nat.zero_le _⟩ ?_
          refine lv_if_eq (tgt := 52) hx hb dX1_count_43 (by decide) (fun c2 => ?_) (fun c2 => ?_)
          · refine lv_iload_n hx hb dX1_count_52 rfl (lv_at hl 3 rfl) ?_
            refine lv_istore_n (lv' := [(3, .int a2), (2, .int a1), (0, .ref h), (1, .int w), (4, .int a3), (5, .int (nI j))]) hx hb dX1_count_53 rfl hl (by decide) rfl (fun ls hl => ?_)
            refine lv_aload_n hx hb dX1_count_54 rfl (lv_at hl 2 rfl) ?_
            refine va_get (D := D) (ci := 1) (v := .ref (q 4)) (C := RX1) (T := TX1) (N := 7) hx hb hts hin hown hK hP 0 rfl rfl 4 (by decide) (hts (.fieldLink RX1 19 "ReferredNamesModel" "given" "[I") (by decide +kernel)) (fun _ h9 => h9) rfl dX1_count_55 ?_
            refine lv_iload hx hb dX1_count_58 (lv_at hl 5 rfl) ?_
            refine rb_ild hx hb hK hP 4 3 rfl rfl (i := j) (by omega) (by decide) dX1_count_60 ?_
            refine lv_iconst (v := nI 1) hx hb dX1_count_61 (by decide) ?_
            refine lv_icmp_le (tgt := 80) hx hb dX1_count_62 (by decide) (fun c3 => ?_) (fun c3 => ?_)
            · refine lv_iload hx hb dX1_count_80 (lv_at hl 4 rfl) ?_
              refine lv_istore (lv' := [(4, .int a3), (3, .int a2), (2, .int a1), (0, .ref h), (1, .int w), (5, .int (nI j))]) hx hb dX1_count_82 hl (by decide) rfl (fun ls hl => ?_)
              refine lv_iinc (v := nI (j + 1)) (lv' := [(5, .int (nI (j + 1))), (4, .int a3), (3, .int a2), (2, .int a1), (0, .ref h), (1, .int w)]) hx hb dX1_count_84 hl (k := 5) rfl (nI_1 j) (by decide) rfl (fun ls hl => ?_)
              refine lv_goto (tgt := 10) hx hb dX1_count_87 (by decide) ?_
              exact ih (j + 1) (a1) (a2) (a3) ls (by omega) ((rn_fo_s (rn_g1_f (decide_eq_false (fun q9 => q9 (rn_le0 (hg0 j (by omega)) c1))))).symm.trans h1) ((rn_fo_s (rn_g2_f (rn_b_eq c2))).symm.trans h2) ((rn_fo_s (rn_g3_l (hg0 j (by omega)) c3)).symm.trans h3) (lv_sub hl [4, 5, 3, 2, 1, 0] rfl)
            · refine lv_iload hx hb dX1_count_65 (lv_at hl 4 rfl) ?_
              refine lv_aload_n hx hb dX1_count_67 rfl (lv_at hl 2 rfl) ?_
              refine va_get (D := D) (ci := 1) (v := .ref (q 4)) (C := RX1) (T := TX1) (N := 7) hx hb hts hin hown hK hP 0 rfl rfl 4 (by decide) (hts (.fieldLink RX1 19 "ReferredNamesModel" "given" "[I") (by decide +kernel)) (fun _ h9 => h9) rfl dX1_count_68 ?_
              refine lv_iload hx hb dX1_count_71 (lv_at hl 5 rfl) ?_
              refine rb_ild hx hb hK hP 4 3 rfl rfl (i := j) (by omega) (by decide) dX1_count_73 ?_
              refine lv_iadd hx hb dX1_count_74 ?_
              refine lv_iconst (v := nI 1) hx hb dX1_count_75 (by decide) ?_
              refine lv_isub hx hb dX1_count_76 ?_
              refine rb_top (y := a3 + (fg j - 1)) (rn_sub1 a3 (fg j)) ?_
              refine lv_goto (tgt := 82) hx hb dX1_count_77 (by decide) ?_
              refine lv_istore (lv' := [(4, .int (a3 + (fg j - 1))), (3, .int a2), (2, .int a1), (0, .ref h), (1, .int w), (5, .int (nI j))]) hx hb dX1_count_82 hl (by decide) rfl (fun ls hl => ?_)
              refine lv_iinc (v := nI (j + 1)) (lv' := [(5, .int (nI (j + 1))), (4, .int (a3 + (fg j - 1))), (3, .int a2), (2, .int a1), (0, .ref h), (1, .int w)]) hx hb dX1_count_84 hl (k := 5) rfl (nI_1 j) (by decide) rfl (fun ls hl => ?_)
              refine lv_goto (tgt := 10) hx hb dX1_count_87 (by decide) ?_
              exact ih (j + 1) (a1) (a2) (a3 + (fg j - 1)) ls (by omega) ((rn_fo_s (rn_g1_f (decide_eq_false (fun q9 => q9 (rn_le0 (hg0 j (by omega)) c1))))).symm.trans h1) ((rn_fo_s (rn_g2_f (rn_b_eq c2))).symm.trans h2) ((rn_fo_s (rn_g3_m (hg0 j (by omega)) c3)).symm.trans h3) (lv_sub hl [4, 5, 3, 2, 1, 0] rfl)
          · refine lv_iload_n hx hb dX1_count_46 rfl (lv_at hl 3 rfl) ?_
            refine lv_iconst (v := nI 1) hx hb dX1_count_47 (by decide) ?_
            refine lv_iadd hx hb dX1_count_48 ?_
            refine rb_top (y := a2 + 1) rfl ?_
            refine lv_goto (tgt := 53) hx hb dX1_count_49 (by decide) ?_
            refine lv_istore_n (lv' := [(3, .int (a2 + 1)), (2, .int a1), (0, .ref h), (1, .int w), (4, .int a3), (5, .int (nI j))]) hx hb dX1_count_53 rfl hl (by decide) rfl (fun ls hl => ?_)
            refine lv_aload_n hx hb dX1_count_54 rfl (lv_at hl 2 rfl) ?_
            refine va_get (D := D) (ci := 1) (v := .ref (q 4)) (C := RX1) (T := TX1) (N := 7) hx hb hts hin hown hK hP 0 rfl rfl 4 (by decide) (hts (.fieldLink RX1 19 "ReferredNamesModel" "given" "[I") (by decide +kernel)) (fun _ h9 => h9) rfl dX1_count_55 ?_
            refine lv_iload hx hb dX1_count_58 (lv_at hl 5 rfl) ?_
            refine rb_ild hx hb hK hP 4 3 rfl rfl (i := j) (by omega) (by decide) dX1_count_60 ?_
            refine lv_iconst (v := nI 1) hx hb dX1_count_61 (by decide) ?_
            refine lv_icmp_le (tgt := 80) hx hb dX1_count_62 (by decide) (fun c3 => ?_) (fun c3 => ?_)
            · refine lv_iload hx hb dX1_count_80 (lv_at hl 4 rfl) ?_
              refine lv_istore (lv' := [(4, .int a3), (3, .int (a2 + 1)), (2, .int a1), (0, .ref h), (1, .int w), (5, .int (nI j))]) hx hb dX1_count_82 hl (by decide) rfl (fun ls hl => ?_)
              refine lv_iinc (v := nI (j + 1)) (lv' := [(5, .int (nI (j + 1))), (4, .int a3), (3, .int (a2 + 1)), (2, .int a1), (0, .ref h), (1, .int w)]) hx hb dX1_count_84 hl (k := 5) rfl (nI_1 j) (by decide) rfl (fun ls hl => ?_)
              refine lv_goto (tgt := 10) hx hb dX1_count_87 (by decide) ?_
              exact ih (j + 1) (a1) (a2 + 1) (a3) ls (by omega) ((rn_fo_s (rn_g1_f (decide_eq_false (fun q9 => q9 (rn_le0 (hg0 j (by omega)) c1))))).symm.trans h1) ((rn_fo_s (rn_g2_t (rn_b_ne c2))).symm.trans h2) ((rn_fo_s (rn_g3_l (hg0 j (by omega)) c3)).symm.trans h3) (lv_sub hl [4, 5, 3, 2, 1, 0] rfl)
            · refine lv_iload hx hb dX1_count_65 (lv_at hl 4 rfl) ?_
              refine lv_aload_n hx hb dX1_count_67 rfl (lv_at hl 2 rfl) ?_
              refine va_get (D := D) (ci := 1) (v := .ref (q 4)) (C := RX1) (T := TX1) (N := 7) hx hb hts hin hown hK hP 0 rfl rfl 4 (by decide) (hts (.fieldLink RX1 19 "ReferredNamesModel" "given" "[I") (by decide +kernel)) (fun _ h9 => h9) rfl dX1_count_68 ?_
              refine lv_iload hx hb dX1_count_71 (lv_at hl 5 rfl) ?_
              refine rb_ild hx hb hK hP 4 3 rfl rfl (i := j) (by omega) (by decide) dX1_count_73 ?_
              refine lv_iadd hx hb dX1_count_74 ?_
              refine lv_iconst (v := nI 1) hx hb dX1_count_75 (by decide) ?_
              refine lv_isub hx hb dX1_count_76 ?_
              refine rb_top (y := a3 + (fg j - 1)) (rn_sub1 a3 (fg j)) ?_
              refine lv_goto (tgt := 82) hx hb dX1_count_77 (by decide) ?_
              refine lv_istore (lv' := [(4, .int (a3 + (fg j - 1))), (3, .int (a2 + 1)), (2, .int a1), (0, .ref h), (1, .int w), (5, .int (nI j))]) hx hb dX1_count_82 hl (by decide) rfl (fun ls hl => ?_)
              refine lv_iinc (v := nI (j + 1)) (lv' := [(5, .int (nI (j + 1))), (4, .int (a3 + (fg j - 1))), (3, .int (a2 + 1)), (2, .int a1), (0, .ref h), (1, .int w)]) hx hb dX1_count_84 hl (k := 5) rfl (nI_1 j) (by decide) rfl (fun ls hl => ?_)
              refine lv_goto (tgt := 10) hx hb dX1_count_87 (by decide) ?_
              exact ih (j + 1) (a1) (a2 + 1) (a3 + (fg j - 1)) ls (by omega) ((rn_fo_s (rn_g1_f (decide_eq_false (fun q9 => q9 (rn_le0 (hg0 j (by omega)) c1))))).symm.trans h1) ((rn_fo_s (rn_g2_t (rn_b_ne c2))).symm.trans h2) ((rn_fo_s (rn_g3_m (hg0 j (by omega)) c3)).symm.trans h3) (lv_sub hl [4, 5, 3, 2, 1, 0] rfl)
        · refine lv_iload_n hx hb dX1_count_29 rfl (lv_at hl 2 rfl) ?_
          refine lv_iconst (v := nI 1) hx hb dX1_count_30 (by decide) ?_
          refine lv_iadd hx hb dX1_count_31 ?_
          refine rb_top (y := a1 + 1) rfl ?_
          refine lv_goto (tgt := 36) hx hb dX1_count_32 (by decide) ?_
          refine lv_istore_n (lv' := [(2, .int (a1 + 1)), (0, .ref h), (1, .int w), (3, .int a2), (4, .int a3), (5, .int (nI j))]) hx hb dX1_count_36 rfl hl (by decide) rfl (fun ls hl => ?_)
          refine lv_aload_n hx hb dX1_count_37 rfl (lv_at hl 1 rfl) ?_
          refine lv_iload hx hb dX1_count_38 (lv_at hl 5 rfl) ?_
          refine rd_call (ci := 1) (b := h) (As := [.int (nI j)]) (rest := []) ⟨hx, hb, hml, hown, hts⟩ (kX1_isMissing l D h q cs fh n fb fl fg fr k (by omega) (by omega) j (by omega) hr0) (cwV 1 hts gX1_count_X1_isMissing rfl rfl rfl (by decide +kernel) ⟨Nat.le_of_ble_eq_true rfl, Nat.le_of_ble_eq_true rfl⟩) hK hP rfl rfl rfl rfl hl.1 rfl (Nat.le_of_ble_eq_true rfl) dX1_count_40 ⟨Nat.zero_le _, Nat.zero_le _⟩ ?_
          refine lv_if_eq (tgt := 52) hx hb dX1_count_43 (by decide) (fun c2 => ?_) (fun c2 => ?_)
          · refine lv_iload_n hx hb dX1_count_52 rfl (lv_at hl 3 rfl) ?_
            refine lv_istore_n (lv' := [(3, .int a2), (2, .int (a1 + 1)), (0, .ref h), (1, .int w), (4, .int a3), (5, .int (nI j))]) hx hb dX1_count_53 rfl hl (by decide) rfl (fun ls hl => ?_)
            refine lv_aload_n hx hb dX1_count_54 rfl (lv_at hl 2 rfl) ?_
            refine va_get (D := D) (ci := 1) (v := .ref (q 4)) (C := RX1) (T := TX1) (N := 7) hx hb hts hin hown hK hP 0 rfl rfl 4 (by decide) (hts (.fieldLink RX1 19 "ReferredNamesModel" "given" "[I") (by decide +kernel)) (fun _ h9 => h9) rfl dX1_count_55 ?_
            refine lv_iload hx hb dX1_count_58 (lv_at hl 5 rfl) ?_
            refine rb_ild hx hb hK hP 4 3 rfl rfl (i := j) (by omega) (by decide) dX1_count_60 ?_
            refine lv_iconst (v := nI 1) hx hb dX1_count_61 (by decide) ?_
            refine lv_icmp_le (tgt := 80) hx hb dX1_count_62 (by decide) (fun c3 => ?_) (fun c3 => ?_)
            · refine lv_iload hx hb dX1_count_80 (lv_at hl 4 rfl) ?_
              refine lv_istore (lv' := [(4, .int a3), (3, .int a2), (2, .int (a1 + 1)), (0, .ref h), (1, .int w), (5, .int (nI j))]) hx hb dX1_count_82 hl (by decide) rfl (fun ls hl => ?_)
              refine lv_iinc (v := nI (j + 1)) (lv' := [(5, .int (nI (j + 1))), (4, .int a3), (3, .int a2), (2, .int (a1 + 1)), (0, .ref h), (1, .int w)]) hx hb dX1_count_84 hl (k := 5) rfl (nI_1 j) (by decide) rfl (fun ls hl => ?_)
              refine lv_goto (tgt := 10) hx hb dX1_count_87 (by decide) ?_
              exact ih (j + 1) (a1 + 1) (a2) (a3) ls (by omega) ((rn_fo_s (rn_g1_t (decide_eq_true (rn_nle0 c1)))).symm.trans h1) ((rn_fo_s (rn_g2_f (rn_b_eq c2))).symm.trans h2) ((rn_fo_s (rn_g3_l (hg0 j (by omega)) c3)).symm.trans h3) (lv_sub hl [4, 5, 3, 2, 1, 0] rfl)
            · refine lv_iload hx hb dX1_count_65 (lv_at hl 4 rfl) ?_
              refine lv_aload_n hx hb dX1_count_67 rfl (lv_at hl 2 rfl) ?_
              refine va_get (D := D) (ci := 1) (v := .ref (q 4)) (C := RX1) (T := TX1) (N := 7) hx hb hts hin hown hK hP 0 rfl rfl 4 (by decide) (hts (.fieldLink RX1 19 "ReferredNamesModel" "given" "[I") (by decide +kernel)) (fun _ h9 => h9) rfl dX1_count_68 ?_
              refine lv_iload hx hb dX1_count_71 (lv_at hl 5 rfl) ?_
              refine rb_ild hx hb hK hP 4 3 rfl rfl (i := j) (by omega) (by decide) dX1_count_73 ?_
              refine lv_iadd hx hb dX1_count_74 ?_
              refine lv_iconst (v := nI 1) hx hb dX1_count_75 (by decide) ?_
              refine lv_isub hx hb dX1_count_76 ?_
              refine rb_top (y := a3 + (fg j - 1)) (rn_sub1 a3 (fg j)) ?_
              refine lv_goto (tgt := 82) hx hb dX1_count_77 (by decide) ?_
              refine lv_istore (lv' := [(4, .int (a3 + (fg j - 1))), (3, .int a2), (2, .int (a1 + 1)), (0, .ref h), (1, .int w), (5, .int (nI j))]) hx hb dX1_count_82 hl (by decide) rfl (fun ls hl => ?_)
              refine lv_iinc (v := nI (j + 1)) (lv' := [(5, .int (nI (j + 1))), (4, .int (a3 + (fg j - 1))), (3, .int a2), (2, .int (a1 + 1)), (0, .ref h), (1, .int w)]) hx hb dX1_count_84 hl (k := 5) rfl (nI_1 j) (by decide) rfl (fun ls hl => ?_)
              refine lv_goto (tgt := 10) hx hb dX1_count_87 (by decide) ?_
              exact ih (j + 1) (a1 + 1) (a2) (a3 + (fg j - 1)) ls (by omega) ((rn_fo_s (rn_g1_t (decide_eq_true (rn_nle0 c1)))).symm.trans h1) ((rn_fo_s (rn_g2_f (rn_b_eq c2))).symm.trans h2) ((rn_fo_s (rn_g3_m (hg0 j (by omega)) c3)).symm.trans h3) (lv_sub hl [4, 5, 3, 2, 1, 0] rfl)
          · refine lv_iload_n hx hb dX1_count_46 rfl (lv_at hl 3 rfl) ?_
            refine lv_iconst (v := nI 1) hx hb dX1_count_47 (by decide) ?_
            refine lv_iadd hx hb dX1_count_48 ?_
            refine rb_top (y := a2 + 1) rfl ?_
            refine lv_goto (tgt := 53) hx hb dX1_count_49 (by decide) ?_
            refine lv_istore_n (lv' := [(3, .int (a2 + 1)), (2, .int (a1 + 1)), (0, .ref h), (1, .int w), (4, .int a3), (5, .int (nI j))]) hx hb dX1_count_53 rfl hl (by decide) rfl (fun ls hl => ?_)
            refine lv_aload_n hx hb dX1_count_54 rfl (lv_at hl 2 rfl) ?_
            refine va_get (D := D) (ci := 1) (v := .ref (q 4)) (C := RX1) (T := TX1) (N := 7) hx hb hts hin hown hK hP 0 rfl rfl 4 (by decide) (hts (.fieldLink RX1 19 "ReferredNamesModel" "given" "[I") (by decide +kernel)) (fun _ h9 => h9) rfl dX1_count_55 ?_
            refine lv_iload hx hb dX1_count_58 (lv_at hl 5 rfl) ?_
            refine rb_ild hx hb hK hP 4 3 rfl rfl (i := j) (by omega) (by decide) dX1_count_60 ?_
            refine lv_iconst (v := nI 1) hx hb dX1_count_61 (by decide) ?_
            refine lv_icmp_le (tgt := 80) hx hb dX1_count_62 (by decide) (fun c3 => ?_) (fun c3 => ?_)
            · refine lv_iload hx hb dX1_count_80 (lv_at hl 4 rfl) ?_
              refine lv_istore (lv' := [(4, .int a3), (3, .int (a2 + 1)), (2, .int (a1 + 1)), (0, .ref h), (1, .int w), (5, .int (nI j))]) hx hb dX1_count_82 hl (by decide) rfl (fun ls hl => ?_)
              refine lv_iinc (v := nI (j + 1)) (lv' := [(5, .int (nI (j + 1))), (4, .int a3), (3, .int (a2 + 1)), (2, .int (a1 + 1)), (0, .ref h), (1, .int w)]) hx hb dX1_count_84 hl (k := 5) rfl (nI_1 j) (by decide) rfl (fun ls hl => ?_)
              refine lv_goto (tgt := 10) hx hb dX1_count_87 (by decide) ?_
              exact ih (j + 1) (a1 + 1) (a2 + 1) (a3) ls (by omega) ((rn_fo_s (rn_g1_t (decide_eq_true (rn_nle0 c1)))).symm.trans h1) ((rn_fo_s (rn_g2_t (rn_b_ne c2))).symm.trans h2) ((rn_fo_s (rn_g3_l (hg0 j (by omega)) c3)).symm.trans h3) (lv_sub hl [4, 5, 3, 2, 1, 0] rfl)
            · refine lv_iload hx hb dX1_count_65 (lv_at hl 4 rfl) ?_
              refine lv_aload_n hx hb dX1_count_67 rfl (lv_at hl 2 rfl) ?_
              refine va_get (D := D) (ci := 1) (v := .ref (q 4)) (C := RX1) (T := TX1) (N := 7) hx hb hts hin hown hK hP 0 rfl rfl 4 (by decide) (hts (.fieldLink RX1 19 "ReferredNamesModel" "given" "[I") (by decide +kernel)) (fun _ h9 => h9) rfl dX1_count_68 ?_
              refine lv_iload hx hb dX1_count_71 (lv_at hl 5 rfl) ?_
              refine rb_ild hx hb hK hP 4 3 rfl rfl (i := j) (by omega) (by decide) dX1_count_73 ?_
              refine lv_iadd hx hb dX1_count_74 ?_
              refine lv_iconst (v := nI 1) hx hb dX1_count_75 (by decide) ?_
              refine lv_isub hx hb dX1_count_76 ?_
              refine rb_top (y := a3 + (fg j - 1)) (rn_sub1 a3 (fg j)) ?_
              refine lv_goto (tgt := 82) hx hb dX1_count_77 (by decide) ?_
              refine lv_istore (lv' := [(4, .int (a3 + (fg j - 1))), (3, .int (a2 + 1)), (2, .int (a1 + 1)), (0, .ref h), (1, .int w), (5, .int (nI j))]) hx hb dX1_count_82 hl (by decide) rfl (fun ls hl => ?_)
              refine lv_iinc (v := nI (j + 1)) (lv' := [(5, .int (nI (j + 1))), (4, .int (a3 + (fg j - 1))), (3, .int (a2 + 1)), (2, .int (a1 + 1)), (0, .ref h), (1, .int w)]) hx hb dX1_count_84 hl (k := 5) rfl (nI_1 j) (by decide) rfl (fun ls hl => ?_)
              refine lv_goto (tgt := 10) hx hb dX1_count_87 (by decide) ?_
              exact ih (j + 1) (a1 + 1) (a2 + 1) (a3 + (fg j - 1)) ls (by omega) ((rn_fo_s (rn_g1_t (decide_eq_true (rn_nle0 c1)))).symm.trans h1) ((rn_fo_s (rn_g2_t (rn_b_ne c2))).symm.trans h2) ((rn_fo_s (rn_g3_m (hg0 j (by omega)) c3)).symm.trans h3) (lv_sub hl [4, 5, 3, 2, 1, 0] rfl)
  refine lv_iconst (v := nI 0) hx hb dX1_count_0 (by decide) ?_
  refine lv_istore_n (lv' := [(2, .int (nI 0)), (0, .ref h), (1, .int w)]) hx hb dX1_count_1 rfl hl (by decide) rfl (fun ls hl => ?_)
  refine lv_iconst (v := nI 0) hx hb dX1_count_2 (by decide) ?_
  refine lv_istore_n (lv' := [(3, .int (nI 0)), (2, .int (nI 0)), (0, .ref h), (1, .int w)]) hx hb dX1_count_3 rfl hl (by decide) rfl (fun ls hl => ?_)
  refine lv_iconst (v := nI 0) hx hb dX1_count_4 (by decide) ?_
  refine lv_istore (lv' := [(4, .int (nI 0)), (3, .int (nI 0)), (2, .int (nI 0)), (0, .ref h), (1, .int w)]) hx hb dX1_count_5 hl (by decide) rfl (fun ls hl => ?_)
  refine lv_iconst (v := nI 0) hx hb dX1_count_7 (by decide) ?_
  refine lv_istore (lv' := [(5, .int (nI 0)), (4, .int (nI 0)), (3, .int (nI 0)), (2, .int (nI 0)), (0, .ref h), (1, .int w)]) hx hb dX1_count_8 hl (by decide) rfl (fun ls hl => ?_)
  exact loop k 0 (nI 0) (nI 0) (nI 0) ls (by omega) rfl rfl rfl (lv_sub hl [4, 5, 3, 2, 1, 0] rfl)
end
section
theorem rn_gi_1 {fg : Nat → Int32} {j : Nat} (h : ¬ upd fg j (fg j + nI 1) j = nI 1) : rn_gi fg j = true := by
  refine decide_eq_true (p := ¬ fg j = 0) (fun q => h ?_)
  rw [pk_us, q]; decide
theorem rn_gi_0 {fg : Nat → Int32} {j : Nat} (h : upd fg j (fg j + nI 1) j = nI 1) : ¬ rn_gi fg j = true := by
  rw [pk_us] at h
  intro q
  exact of_decide_eq_true (p := ¬ fg j = 0) q (rn_gi1 h)
abbrev rmX1_put : Room := { frames := 0, cells := 0, slots := 0, locals := 0 }
set_option maxHeartbeats 4000000 in
set_option maxRecDepth 100000 in
theorem kX1_put (l : Launch) (D : va_G) (h : Nat) (q : Nat → Nat) (cs : Nat → ClassId) (fh : Nat → Int32) (n : Nat) (fb fl fg fr : Nat → Int32) (k : Nat) (hn : n ≤ 60) (hk : k ≤ 200) (v : Int64) (ct : Int32) (sz : Nat) : Met l yX1_put wsX1_put rmX1_put (wr_P D vwCl (tM cs) [.ref h, .long v, .int ct] (wM h q cs fh n fb fl fg fr k) sz) (wr_Q D vwCl (tM cs) (wM h q cs fh n fb fl fg fr k) (wN h q cs (rn_pt v ct fh n fb fl fg fr k).2) sz ((rn_pt v ct fh n fb fl fg fr k).1)) 0 0 (va_A (wM h q cs fh n fb fl fg fr k) sz) := by
  refine wr_of (cc := cX1_put) (maxL := 8) (ty := .boolean) (by decide) rfl rn_pt_nar (Nat.le_of_ble_eq_true rfl) ?_
  intro p e s m args below meth c ls Q A hx hb hml hown hts hK hA hP hD hS hl hret
  have hown : s.vm.findClass RX1 = some m.cls := hown
  have hin : ∀ w ∈ wsX10, w ∈ wsX1_put := by decide +kernel
  have hl : lv_has ls 8 [(0, .ref h), (1, .long v), (3, .int ct)] := hl
  refine lv_iload_n hx hb dX1_put_0 rfl (lv_at hl 2 rfl) ?_
  refine lv_iconst (v := nI 1) hx hb dX1_put_1 (by decide) ?_
  refine lv_icmp_lt (tgt := 22) hx hb dX1_put_2 (by decide) (fun c0 => ?_) (fun c0 => ?_)
  · rw [rn_pt_f (Or.inl c0)] at hret
    refine lv_iconst (v := nI 0) hx hb dX1_put_22 (by decide) ?_
    refine rb_top (y := nI 0) rfl ?_
    exact hret _ _ _ _ dX1_put_23 hP hD hS
  · refine lv_iload_n hx hb dX1_put_5 rfl (lv_at hl 2 rfl) ?_
    refine lv_bipush (v := nI 8) hx hb dX1_put_6 (by decide) ?_
    refine lv_icmp_gt (tgt := 22) hx hb dX1_put_8 (by decide) (fun c1 => ?_) (fun c1 => ?_)
    · rw [rn_pt_f (Or.inr (Or.inl c1))] at hret
      refine lv_iconst (v := nI 0) hx hb dX1_put_22 (by decide) ?_
      refine rb_top (y := nI 0) rfl ?_
      exact hret _ _ _ _ dX1_put_23 hP hD hS
    · obtain ⟨cN, h1c, h8c, rfl⟩ := rn_c2 c0 c1
      refine lv_aload_n hx hb dX1_put_11 rfl (lv_at hl 0 rfl) ?_
      refine va_get (D := D) (ci := 1) (v := .int (nI n)) (C := RX1) (T := TX1) (N := 7) hx hb hts hin hown hK hP 0 rfl rfl 1 (by decide) (hts (.fieldLink RX1 25 "ReferredNamesModel" "inHand" "I") (by decide +kernel)) (fun _ h9 => h9) rfl dX1_put_12 ?_
      refine lv_iload_n hx hb dX1_put_15 rfl (lv_at hl 2 rfl) ?_
      refine lv_iadd hx hb dX1_put_16 ?_
      refine rb_top (y := nI (n + cN)) (nI_add n cN) ?_
      refine lv_bipush (v := nI 60) hx hb dX1_put_17 (by decide) ?_
      refine lv_icmp_le (tgt := 24) hx hb dX1_put_19 (by decide) (fun c2 => ?_) (fun c2 => ?_)
      · rw [nI_leI (by omega) (by omega)] at c2
        rw [rn_pt_t h1c h8c (by omega)] at hret
        refine lv_iconst (v := nI 0) hx hb dX1_put_24 (by decide) ?_
        refine lv_istore (lv' := [(4, .int (nI 0)), (0, .ref h), (1, .long v), (3, .int (nI cN))]) hx hb dX1_put_25 hl (by decide) rfl (fun ls hl => ?_)
        have inner : ∀ (f : Nat) (i kk : Nat) (x9 : Int64) (H9 : Heap) (locs9 : List Loc) (ls : Array Slot), i + f = cN → kk + 1 ≤ i → x9 = rn_sh v (i - (kk + 1)) → (∀ ls : Array Slot, lv_has ls 8 [(0, .ref h), (1, .long v), (3, .int (nI cN)), (4, .int (nI kk)), (5, .long (rn_sh v (cN - (kk + 1))))] → W p l e rmX1_put s m args below meth c H9 locs9 0 0 Q (F0 m 61 ls [])) → lv_has ls 8 [(0, .ref h), (1, .long v), (3, .int (nI cN)), (4, .int (nI kk)), (5, .long x9), (7, .int (nI i))] → W p l e rmX1_put s m args below meth c H9 locs9 0 0 Q (F0 m 42 ls []) := by
          intro f
          induction f with
          | zero =>
            intro i kk x9 H9 locs9 ls hi hik hx9 hc hl
            refine lv_iload hx hb dX1_put_42 (lv_at hl 5 rfl) ?_
            refine lv_iload_n hx hb dX1_put_44 rfl (lv_at hl 2 rfl) ?_
            refine lv_icmp_ge (tgt := 61) hx hb dX1_put_45 (by decide) (fun c4 => ?_) (fun c4 => ?_)
            · rw [nI_leI (by omega) (by omega)] at c4
              have ei : i = cN := by omega
              rw [hx9, ei] at hl
              exact hc ls (lv_sub hl [0, 1, 2, 3, 4] rfl)
            · rw [nI_leI (by omega) (by omega)] at c4
              exfalso; omega
          | succ f ih =>
            intro i kk x9 H9 locs9 ls hi hik hx9 hc hl
            refine lv_iload hx hb dX1_put_42 (lv_at hl 5 rfl) ?_
            refine lv_iload_n hx hb dX1_put_44 rfl (lv_at hl 2 rfl) ?_
            refine lv_icmp_ge (tgt := 61) hx hb dX1_put_45 (by decide) (fun c4 => ?_) (fun c4 => ?_)
            · rw [nI_leI (by omega) (by omega)] at c4
              exfalso; omega
            · rw [nI_leI (by omega) (by omega)] at c4
              refine lv_lload hx hb dX1_put_48 (lv_at hl 4 rfl) ?_
              refine lv_bipush (v := nI 8) hx hb dX1_put_50 (by decide) ?_
              refine lv_lshr (v := x9 >>> ((nI 8).toInt64 &&& 63)) hx hb dX1_put_52 rfl ?_
              refine lv_lstore (lv' := [(5, .long (x9 >>> ((nI 8).toInt64 &&& 63))), (0, .ref h), (1, .long v), (3, .int (nI cN)), (4, .int (nI kk)), (7, .int (nI i))]) hx hb dX1_put_53 hl (by decide) rfl (fun ls hl => ?_)
              refine lv_iinc (v := nI (i + 1)) (lv' := [(7, .int (nI (i + 1))), (5, .long (x9 >>> ((nI 8).toInt64 &&& 63))), (0, .ref h), (1, .long v), (3, .int (nI cN)), (4, .int (nI kk))]) hx hb dX1_put_55 hl (k := 5) rfl (nI_1 i) (by decide) rfl (fun ls hl => ?_)
              refine lv_goto (tgt := 42) hx hb dX1_put_58 (by decide) ?_
              exact ih (i + 1) kk (x9 >>> ((nI 8).toInt64 &&& 63)) H9 locs9 ls (by omega) (by omega) (by rw [hx9, show i + 1 - (kk + 1) = (i - (kk + 1)) + 1 by omega]; rfl) hc (lv_sub hl [2, 3, 4, 5, 1, 0] rfl)
        have loop : ∀ (f : Nat) (kk : Nat) (f1 : Nat → Int32) (H : Heap) (locs : List Loc) (ls : Array Slot), kk + f = cN → rn_pu v f (n + kk) f1 = rn_pu v cN n fh → va_P D vwCl (wM h q cs f1 n fb fl fg fr k) H → va_D A (wM h q cs f1 n fb fl fg fr k) → va_S A s.heap H locs → lv_has ls 8 [(0, .ref h), (1, .long v), (3, .int (nI cN)), (4, .int (nI kk))] → W p l e rmX1_put s m args below meth c H locs 0 0 Q (F0 m 27 ls []) := by
          intro f
          induction f with
          | zero =>
            intro kk f1 H locs ls hkf he hP hD hS hl
            refine lv_iload hx hb dX1_put_27 (lv_at hl 3 rfl) ?_
            refine lv_iload_n hx hb dX1_put_29 rfl (lv_at hl 2 rfl) ?_
            refine lv_icmp_ge (tgt := 86) hx hb dX1_put_30 (by decide) (fun c3 => ?_) (fun c3 => ?_)
            · rw [nI_leI (by omega) (by omega)] at c3
              have he : f1 = rn_pu v cN n fh := he
              rw [he] at hP hD
              refine lv_aload_n hx hb dX1_put_86 rfl (lv_at hl 0 rfl) ?_
              refine lv_aload_n hx hb dX1_put_87 rfl (lv_at hl 0 rfl) ?_
              refine va_get (D := D) (ci := 1) (v := .int (nI n)) (C := RX1) (T := TX1) (N := 7) hx hb hts hin hown hK hP 0 rfl rfl 1 (by decide) (hts (.fieldLink RX1 25 "ReferredNamesModel" "inHand" "I") (by decide +kernel)) (fun _ h9 => h9) rfl dX1_put_88 ?_
              refine lv_iload_n hx hb dX1_put_91 rfl (lv_at hl 2 rfl) ?_
              refine lv_iadd hx hb dX1_put_92 ?_
              refine rb_top (y := nI (n + cN)) (nI_add n cN) ?_
              refine va_put (D := D) (ci := 1) (v := .int (nI (n + cN))) (ty := .int) (C := RX1) (T := TX1) (N := 7) hx hb hts hin tyX1 tyX1_ok nmX1 hown hK hP hD hS 0 rfl rfl 1 (by decide) (hts (.fieldLink RX1 25 "ReferredNamesModel" "inHand" "I") (by decide +kernel)) (fun _ h9 => h9) rfl (by decide +kernel) rfl rfl (Nat.le_of_ble_eq_true rfl) dX1_put_93 (fun H locs hP hD hS => ?_)
              have hP : va_P D vwCl (wM h q cs (rn_pu v cN n fh) (n + cN) fb fl fg fr k) H := hP
              have hD : va_D A (wM h q cs (rn_pu v cN n fh) (n + cN) fb fl fg fr k) := hD
              refine lv_iconst (v := nI 1) hx hb dX1_put_96 (by decide) ?_
              refine rb_top (y := nI 1) rfl ?_
              exact hret _ _ _ _ dX1_put_97 hP hD hS
            · rw [nI_leI (by omega) (by omega)] at c3
              exfalso; omega
          | succ f ih =>
            intro kk f1 H locs ls hkf he hP hD hS hl
            refine lv_iload hx hb dX1_put_27 (lv_at hl 3 rfl) ?_
            refine lv_iload_n hx hb dX1_put_29 rfl (lv_at hl 2 rfl) ?_
            refine lv_icmp_ge (tgt := 86) hx hb dX1_put_30 (by decide) (fun c3 => ?_) (fun c3 => ?_)
            · rw [nI_leI (by omega) (by omega)] at c3
              exfalso; omega
            · rw [nI_leI (by omega) (by omega)] at c3
              refine lv_lload_n hx hb dX1_put_33 rfl (lv_at hl 1 rfl) ?_
              refine lv_lstore (lv' := [(5, .long v), (0, .ref h), (1, .long v), (3, .int (nI cN)), (4, .int (nI kk))]) hx hb dX1_put_34 hl (by decide) rfl (fun ls hl => ?_)
              refine lv_iload hx hb dX1_put_36 (lv_at hl 4 rfl) ?_
              refine lv_iconst (v := nI 1) hx hb dX1_put_38 (by decide) ?_
              refine lv_iadd hx hb dX1_put_39 ?_
              refine rb_top (y := nI (kk + 1)) (nI_add kk 1) ?_
              refine lv_istore (lv' := [(7, .int (nI (kk + 1))), (5, .long v), (0, .ref h), (1, .long v), (3, .int (nI cN)), (4, .int (nI kk))]) hx hb dX1_put_40 hl (by decide) rfl (fun ls hl => ?_)
              refine inner f (kk + 1) kk v H locs ls (by omega) (Nat.le_refl _) (by rw [Nat.sub_self]; rfl) (fun ls hl => ?_) (lv_sub hl [2, 3, 4, 5, 1, 0] rfl)
              rw [show cN - (kk + 1) = f by omega] at hl
              refine lv_aload_n hx hb dX1_put_61 rfl (lv_at hl 0 rfl) ?_
              refine va_get (D := D) (ci := 1) (v := .ref (q 1)) (C := RX1) (T := TX1) (N := 7) hx hb hts hin hown hK hP 0 rfl rfl 0 (by decide) (hts (.fieldLink RX1 7 "ReferredNamesModel" "hand" "[I") (by decide +kernel)) (fun _ h9 => h9) rfl dX1_put_62 ?_
              refine lv_aload_n hx hb dX1_put_65 rfl (lv_at hl 0 rfl) ?_
              refine va_get (D := D) (ci := 1) (v := .int (nI n)) (C := RX1) (T := TX1) (N := 7) hx hb hts hin hown hK hP 0 rfl rfl 1 (by decide) (hts (.fieldLink RX1 25 "ReferredNamesModel" "inHand" "I") (by decide +kernel)) (fun _ h9 => h9) rfl dX1_put_66 ?_
              refine lv_iload hx hb dX1_put_69 (lv_at hl 3 rfl) ?_
              refine lv_iadd hx hb dX1_put_71 ?_
              refine rb_top (y := nI (n + kk)) (nI_add n kk) ?_
              refine lv_lload hx hb dX1_put_72 (lv_at hl 4 rfl) ?_
              refine lv_ldc2 (v := 255) hx hb hown (hts (.constantLong RX1 29 (255)) (by decide +kernel)) dX1_put_74 ?_
              refine lv_land hx hb dX1_put_77 ?_
              refine lv_l2i (v := ((rn_sh v f) &&& 255).toInt32) hx hb dX1_put_78 rfl ?_
              refine rb_top (y := rn_by v f &&& nI 255) (rn_shb v (by omega)) ?_
              refine rb_ist hx hb hK hP hD hS 1 0 rfl rfl (i := n + kk) (by omega) (by decide) dX1_put_79 (fun H locs hP hD hS => ?_)
              rw [rn_k_upd] at hP hD
              have hP : va_P D vwCl (wM h q cs (upd f1 (n + kk) (rn_by v f)) n fb fl fg fr k) H := hP
              have hD : va_D A (wM h q cs (upd f1 (n + kk) (rn_by v f)) n fb fl fg fr k) := hD
              refine lv_iinc (v := nI (kk + 1)) (lv' := [(4, .int (nI (kk + 1))), (0, .ref h), (1, .long v), (3, .int (nI cN)), (5, .long (rn_sh v f))]) hx hb dX1_put_80 hl (k := 3) rfl (nI_1 kk) (by decide) rfl (fun ls hl => ?_)
              refine lv_goto (tgt := 27) hx hb dX1_put_83 (by decide) ?_
              exact ih (kk + 1) (upd f1 (n + kk) (rn_by v f)) H locs ls (by omega) he hP hD hS (lv_sub hl [1, 2, 3, 0] rfl)
        exact loop cN 0 fh _ _ ls (by omega) rfl hP hD hS (lv_sub hl [1, 2, 3, 0] rfl)
      · rw [nI_leI (by omega) (by omega)] at c2
        rw [rn_pt_f (Or.inr (Or.inr (by rw [nI_ltI (by omega) (by omega)]; omega)))] at hret
        refine lv_iconst (v := nI 0) hx hb dX1_put_22 (by decide) ?_
        refine rb_top (y := nI 0) rfl ?_
        exact hret _ _ _ _ dX1_put_23 hP hD hS
abbrev rmX1_known : Room := { frames := 1, cells := 0, slots := 0, locals := 24 }
set_option maxHeartbeats 4000000 in
set_option maxRecDepth 100000 in
theorem kX1_known (l : Launch) (D : va_G) (h : Nat) (q : Nat → Nat) (cs : Nat → ClassId) (fh : Nat → Int32) (n : Nat) (fb fl fg fr : Nat → Int32) (k : Nat) (hn : n ≤ 60) (hk : k ≤ 200) (sz : Nat) (hby : ∀ i, (fh i).toInt8.toInt32 = fh i) (hbb : ∀ i, (fb i).toInt8.toInt32 = fb i) (hu : ∀ a b, a < b → b < k → rn_mt fh n fb fl a = true → rn_mt fh n fb fl b = true → False) : Met l yX1_known wsX1_known rmX1_known (wr_P D vwCl (tM cs) [.ref h] (wM h q cs fh n fb fl fg fr k) sz) (wr_Q D vwCl (tM cs) (wM h q cs fh n fb fl fg fr k) (wN h q cs (rn_tk fh n fb fl fg fr k).2) sz ((rn_tk fh n fb fl fg fr k).1)) 0 0 (va_A (wM h q cs fh n fb fl fg fr k) sz) := by
  refine wr_of (cc := cX1_known) (maxL := 3) (ty := .int) (by decide) rfl rfl (Nat.le_of_ble_eq_true rfl) ?_
  intro p e s m args below meth c ls Q A hx hb hml hown hts hK hA hP hD hS hl hret
  have hown : s.vm.findClass RX1 = some m.cls := hown
  have hin : ∀ w ∈ wsX10, w ∈ wsX1_known := by decide +kernel
  have hl : lv_has ls 3 [(0, .ref h)] := hl
  rcases rn_tk_c (fh := fh) (n := n) (fb := fb) (fl := fl) (fg := fg) (fr := fr) hk with ⟨j, hj, e1, e2⟩ | ⟨e1, hlt, e2⟩ | ⟨e1, hlt, e2⟩
  · rw [e2] at hret
    refine lv_aload_n hx hb dX1_known_0 rfl (lv_at hl 0 rfl) ?_
    refine rd_call (ci := 1) (b := h) (As := []) (rest := []) ⟨hx, hb, hml, hown, hts⟩ (kX1_place l D h q cs fh n fb fl fg fr k (by omega) (by omega) hby hbb hu) (cwV 0 hts gX1_known_X1_place rfl rfl rfl (by decide +kernel) ⟨Nat.le_of_ble_eq_true rfl, Nat.le_of_ble_eq_true rfl⟩) hK hP rfl rfl rfl rfl hl.1 rfl (Nat.le_of_ble_eq_true rfl) dX1_known_1 ⟨Nat.zero_le _, Nat.zero_le _⟩ ?_
    refine rb_top (y := nI j) e1 ?_
    refine lv_istore_n (lv' := [(1, .int (nI j)), (0, .ref h)]) hx hb dX1_known_4 rfl hl (by decide) rfl (fun ls hl => ?_)
    refine lv_iload_n hx hb dX1_known_5 rfl (lv_at hl 0 rfl) ?_
    refine lv_if_ge (tgt := 25) hx hb dX1_known_6 (by decide) (fun c0 => ?_) (fun c0 => ?_)
    · rw [show (0 : Int32) = nI 0 from rfl] at c0
      rw [nI_leI (by omega) (by omega)] at c0
      refine lv_iload_n hx hb dX1_known_25 rfl (lv_at hl 0 rfl) ?_
      refine lv_if_ge (tgt := 101) hx hb dX1_known_26 (by decide) (fun c2 => ?_) (fun c2 => ?_)
      · rw [show (0 : Int32) = nI 0 from rfl] at c2
        rw [nI_leI (by omega) (by omega)] at c2
        refine lv_aload_n hx hb dX1_known_101 rfl (lv_at hl 1 rfl) ?_
        refine lv_iconst (v := nI 0) hx hb dX1_known_102 (by decide) ?_
        refine va_put (D := D) (ci := 1) (v := .int (nI 0)) (ty := .int) (C := RX1) (T := TX1) (N := 7) hx hb hts hin tyX1 tyX1_ok nmX1 hown hK hP hD hS 0 rfl rfl 1 (by decide) (hts (.fieldLink RX1 25 "ReferredNamesModel" "inHand" "I") (by decide +kernel)) (fun _ h9 => h9) rfl (by decide +kernel) rfl rfl (Nat.le_of_ble_eq_true rfl) dX1_known_103 (fun H locs hP hD hS => ?_)
        have hP : va_P D vwCl (wM h q cs fh 0 fb fl fg fr k) H := hP
        have hD : va_D A (wM h q cs fh 0 fb fl fg fr k) := hD
        refine lv_iload_n hx hb dX1_known_106 rfl (lv_at hl 0 rfl) ?_
        refine rb_top (y := nI j) rfl ?_
        exact hret _ _ _ _ dX1_known_107 hP hD hS
      · rw [show (0 : Int32) = nI 0 from rfl] at c2
        rw [nI_leI (by omega) (by omega)] at c2
        exfalso; omega
    · rw [show (0 : Int32) = nI 0 from rfl] at c0
      rw [nI_leI (by omega) (by omega)] at c0
      exfalso; omega
  · rw [e2] at hret
    refine lv_aload_n hx hb dX1_known_0 rfl (lv_at hl 0 rfl) ?_
    refine rd_call (ci := 1) (b := h) (As := []) (rest := []) ⟨hx, hb, hml, hown, hts⟩ (kX1_place l D h q cs fh n fb fl fg fr k (by omega) (by omega) hby hbb hu) (cwV 0 hts gX1_known_X1_place rfl rfl rfl (by decide +kernel) ⟨Nat.le_of_ble_eq_true rfl, Nat.le_of_ble_eq_true rfl⟩) hK hP rfl rfl rfl rfl hl.1 rfl (Nat.le_of_ble_eq_true rfl) dX1_known_1 ⟨Nat.zero_le _, Nat.zero_le _⟩ ?_
    refine rb_top (y := (-1)) e1 ?_
    refine lv_istore_n (lv' := [(1, .int ((-1))), (0, .ref h)]) hx hb dX1_known_4 rfl hl (by decide) rfl (fun ls hl => ?_)
    refine lv_iload_n hx hb dX1_known_5 rfl (lv_at hl 0 rfl) ?_
    refine lv_if_ge (tgt := 25) hx hb dX1_known_6 (by decide) (fun c0 => ?_) (fun c0 => ?_)
    · exact absurd c0 (by decide)
    · refine lv_aload_n hx hb dX1_known_9 rfl (lv_at hl 1 rfl) ?_
      refine va_get (D := D) (ci := 1) (v := .int (nI k)) (C := RX1) (T := TX1) (N := 7) hx hb hts hin hown hK hP 0 rfl rfl 6 (by decide) (hts (.fieldLink RX1 31 "ReferredNamesModel" "known" "I") (by decide +kernel)) (fun _ h9 => h9) rfl dX1_known_10 ?_
      refine lv_sipush (v := nI 200) hx hb dX1_known_13 (by decide) ?_
      refine lv_icmp_ne (tgt := 25) hx hb dX1_known_16 (by decide) (fun c1 => ?_) (fun c1 => ?_)
      · rw [nI_eq (by omega) (by omega)] at c1
        refine lv_iload_n hx hb dX1_known_25 rfl (lv_at hl 0 rfl) ?_
        refine lv_if_ge (tgt := 101) hx hb dX1_known_26 (by decide) (fun c2 => ?_) (fun c2 => ?_)
        · exact absurd c2 (by decide)
        · refine lv_aload_n hx hb dX1_known_29 rfl (lv_at hl 1 rfl) ?_
          refine va_get (D := D) (ci := 1) (v := .int (nI k)) (C := RX1) (T := TX1) (N := 7) hx hb hts hin hown hK hP 0 rfl rfl 6 (by decide) (hts (.fieldLink RX1 31 "ReferredNamesModel" "known" "I") (by decide +kernel)) (fun _ h9 => h9) rfl dX1_known_30 ?_
          refine lv_istore_n (lv' := [(1, .int (nI k)), (0, .ref h)]) hx hb dX1_known_33 rfl hl (by decide) rfl (fun ls hl => ?_)
          refine lv_aload_n hx hb dX1_known_34 rfl (lv_at hl 1 rfl) ?_
          refine va_get (D := D) (ci := 1) (v := .ref (q 3)) (C := RX1) (T := TX1) (N := 7) hx hb hts hin hown hK hP 0 rfl rfl 3 (by decide) (hts (.fieldLink RX1 16 "ReferredNamesModel" "sizes" "[I") (by decide +kernel)) (fun _ h9 => h9) rfl dX1_known_35 ?_
          refine lv_iload_n hx hb dX1_known_38 rfl (lv_at hl 0 rfl) ?_
          refine lv_aload_n hx hb dX1_known_39 rfl (lv_at hl 1 rfl) ?_
          refine va_get (D := D) (ci := 1) (v := .int (nI n)) (C := RX1) (T := TX1) (N := 7) hx hb hts hin hown hK hP 0 rfl rfl 1 (by decide) (hts (.fieldLink RX1 25 "ReferredNamesModel" "inHand" "I") (by decide +kernel)) (fun _ h9 => h9) rfl dX1_known_40 ?_
          refine rb_ist hx hb hK hP hD hS 3 2 rfl rfl (i := k) (by omega) (by decide) dX1_known_43 (fun H locs hP hD hS => ?_)
          have hP : va_P D vwCl (wM h q cs fh n fb (upd fl k (nI n)) fg fr k) H := hP
          have hD : va_D A (wM h q cs fh n fb (upd fl k (nI n)) fg fr k) := hD
          refine lv_iconst (v := nI 0) hx hb dX1_known_44 (by decide) ?_
          refine lv_istore_n (lv' := [(2, .int (nI 0)), (1, .int (nI k)), (0, .ref h)]) hx hb dX1_known_45 rfl hl (by decide) rfl (fun ls hl => ?_)
          have loop : ∀ (f : Nat) (i : Nat) (H : Heap) (locs : List Loc) (ls : Array Slot), i + f = n → va_P D vwCl (wM h q cs fh n (va_cpy fh fb 0 (k * 60) i) (upd fl k (nI n)) fg fr k) H → va_D A (wM h q cs fh n (va_cpy fh fb 0 (k * 60) i) (upd fl k (nI n)) fg fr k) → va_S A s.heap H locs → lv_has ls 3 [(0, .ref h), (1, .int (nI k)), (2, .int (nI i))] → W p l e rmX1_known s m args below meth c H locs 0 0 Q (F0 m 46 ls []) := by
            intro f
            induction f with
            | zero =>
              intro i H locs ls hi hP hD hS hl
              refine lv_iload_n hx hb dX1_known_46 rfl (lv_at hl 2 rfl) ?_
              refine lv_aload_n hx hb dX1_known_47 rfl (lv_at hl 0 rfl) ?_
              refine va_get (D := D) (ci := 1) (v := .int (nI n)) (C := RX1) (T := TX1) (N := 7) hx hb hts hin hown hK hP 0 rfl rfl 1 (by decide) (hts (.fieldLink RX1 25 "ReferredNamesModel" "inHand" "I") (by decide +kernel)) (fun _ h9 => h9) rfl dX1_known_48 ?_
              refine lv_icmp_ge (tgt := 77) hx hb dX1_known_51 (by decide) (fun c3 => ?_) (fun c3 => ?_)
              · rw [nI_leI (by omega) (by omega)] at c3
                have ei : i = n := by omega
                rw [ei] at hP hD
                refine lv_aload_n hx hb dX1_known_77 rfl (lv_at hl 0 rfl) ?_
                refine va_get (D := D) (ci := 1) (v := .ref (q 4)) (C := RX1) (T := TX1) (N := 7) hx hb hts hin hown hK hP 0 rfl rfl 4 (by decide) (hts (.fieldLink RX1 19 "ReferredNamesModel" "given" "[I") (by decide +kernel)) (fun _ h9 => h9) rfl dX1_known_78 ?_
                refine lv_iload_n hx hb dX1_known_81 rfl (lv_at hl 1 rfl) ?_
                refine lv_iconst (v := nI 0) hx hb dX1_known_82 (by decide) ?_
                refine rb_ist hx hb hK hP hD hS 4 3 rfl rfl (i := k) (by omega) (by decide) dX1_known_83 (fun H locs hP hD hS => ?_)
                have hP : va_P D vwCl (wM h q cs fh n (va_cpy fh fb 0 (k * 60) n) (upd fl k (nI n)) (upd fg k (nI 0)) fr k) H := hP
                have hD : va_D A (wM h q cs fh n (va_cpy fh fb 0 (k * 60) n) (upd fl k (nI n)) (upd fg k (nI 0)) fr k) := hD
                refine lv_aload_n hx hb dX1_known_84 rfl (lv_at hl 0 rfl) ?_
                refine va_get (D := D) (ci := 1) (v := .ref (q 5)) (C := RX1) (T := TX1) (N := 7) hx hb hts hin hown hK hP 0 rfl rfl 5 (by decide) (hts (.fieldLink RX1 22 "ReferredNamesModel" "referred" "[I") (by decide +kernel)) (fun _ h9 => h9) rfl dX1_known_85 ?_
                refine lv_iload_n hx hb dX1_known_88 rfl (lv_at hl 1 rfl) ?_
                refine lv_iconst (v := nI 0) hx hb dX1_known_89 (by decide) ?_
                refine rb_ist hx hb hK hP hD hS 5 4 rfl rfl (i := k) (by omega) (by decide) dX1_known_90 (fun H locs hP hD hS => ?_)
                have hP : va_P D vwCl (wM h q cs fh n (va_cpy fh fb 0 (k * 60) n) (upd fl k (nI n)) (upd fg k (nI 0)) (upd fr k (nI 0)) k) H := hP
                have hD : va_D A (wM h q cs fh n (va_cpy fh fb 0 (k * 60) n) (upd fl k (nI n)) (upd fg k (nI 0)) (upd fr k (nI 0)) k) := hD
                refine lv_aload_n hx hb dX1_known_91 rfl (lv_at hl 0 rfl) ?_
                refine lv_dup hx hb dX1_known_92 rfl ?_
                refine va_get (D := D) (ci := 1) (v := .int (nI k)) (C := RX1) (T := TX1) (N := 7) hx hb hts hin hown hK hP 0 rfl rfl 6 (by decide) (hts (.fieldLink RX1 31 "ReferredNamesModel" "known" "I") (by decide +kernel)) (fun _ h9 => h9) rfl dX1_known_93 ?_
                refine lv_iconst (v := nI 1) hx hb dX1_known_96 (by decide) ?_
                refine lv_iadd hx hb dX1_known_97 ?_
                refine rb_top (y := nI (k + 1)) (nI_add k 1) ?_
                refine va_put (D := D) (ci := 1) (v := .int (nI (k + 1))) (ty := .int) (C := RX1) (T := TX1) (N := 7) hx hb hts hin tyX1 tyX1_ok nmX1 hown hK hP hD hS 0 rfl rfl 6 (by decide) (hts (.fieldLink RX1 31 "ReferredNamesModel" "known" "I") (by decide +kernel)) (fun _ h9 => h9) rfl (by decide +kernel) rfl rfl (Nat.le_of_ble_eq_true rfl) dX1_known_98 (fun H locs hP hD hS => ?_)
                have hP : va_P D vwCl (wM h q cs fh n (va_cpy fh fb 0 (k * 60) n) (upd fl k (nI n)) (upd fg k (nI 0)) (upd fr k (nI 0)) (k + 1)) H := hP
                have hD : va_D A (wM h q cs fh n (va_cpy fh fb 0 (k * 60) n) (upd fl k (nI n)) (upd fg k (nI 0)) (upd fr k (nI 0)) (k + 1)) := hD
                refine lv_aload_n hx hb dX1_known_101 rfl (lv_at hl 0 rfl) ?_
                refine lv_iconst (v := nI 0) hx hb dX1_known_102 (by decide) ?_
                refine va_put (D := D) (ci := 1) (v := .int (nI 0)) (ty := .int) (C := RX1) (T := TX1) (N := 7) hx hb hts hin tyX1 tyX1_ok nmX1 hown hK hP hD hS 0 rfl rfl 1 (by decide) (hts (.fieldLink RX1 25 "ReferredNamesModel" "inHand" "I") (by decide +kernel)) (fun _ h9 => h9) rfl (by decide +kernel) rfl rfl (Nat.le_of_ble_eq_true rfl) dX1_known_103 (fun H locs hP hD hS => ?_)
                have hP : va_P D vwCl (wM h q cs fh 0 (va_cpy fh fb 0 (k * 60) n) (upd fl k (nI n)) (upd fg k (nI 0)) (upd fr k (nI 0)) (k + 1)) H := hP
                have hD : va_D A (wM h q cs fh 0 (va_cpy fh fb 0 (k * 60) n) (upd fl k (nI n)) (upd fg k (nI 0)) (upd fr k (nI 0)) (k + 1)) := hD
                refine lv_iload_n hx hb dX1_known_106 rfl (lv_at hl 1 rfl) ?_
                refine rb_top (y := nI k) rfl ?_
                exact hret _ _ _ _ dX1_known_107 hP hD hS
              · rw [nI_leI (by omega) (by omega)] at c3
                exfalso; omega
            | succ f ih =>
              intro i H locs ls hi hP hD hS hl
              refine lv_iload_n hx hb dX1_known_46 rfl (lv_at hl 2 rfl) ?_
              refine lv_aload_n hx hb dX1_known_47 rfl (lv_at hl 0 rfl) ?_
              refine va_get (D := D) (ci := 1) (v := .int (nI n)) (C := RX1) (T := TX1) (N := 7) hx hb hts hin hown hK hP 0 rfl rfl 1 (by decide) (hts (.fieldLink RX1 25 "ReferredNamesModel" "inHand" "I") (by decide +kernel)) (fun _ h9 => h9) rfl dX1_known_48 ?_
              refine lv_icmp_ge (tgt := 77) hx hb dX1_known_51 (by decide) (fun c3 => ?_) (fun c3 => ?_)
              · rw [nI_leI (by omega) (by omega)] at c3
                exfalso; omega
              · rw [nI_leI (by omega) (by omega)] at c3
                refine lv_aload_n hx hb dX1_known_54 rfl (lv_at hl 0 rfl) ?_
                refine va_get (D := D) (ci := 1) (v := .ref (q 2)) (C := RX1) (T := TX1) (N := 7) hx hb hts hin hown hK hP 0 rfl rfl 2 (by decide) (hts (.fieldLink RX1 13 "ReferredNamesModel" "bytes" "[I") (by decide +kernel)) (fun _ h9 => h9) rfl dX1_known_55 ?_
                refine lv_bipush (v := nI 60) hx hb dX1_known_58 (by decide) ?_
                refine lv_iload_n hx hb dX1_known_60 rfl (lv_at hl 1 rfl) ?_
                refine lv_imul hx hb dX1_known_61 ?_
                refine rb_top (y := nI (k * 60)) (by rw [pk_mul, Nat.mul_comm]) ?_
                refine lv_iload_n hx hb dX1_known_62 rfl (lv_at hl 2 rfl) ?_
                refine lv_iadd hx hb dX1_known_63 ?_
                refine rb_top (y := nI ((k * 60) + i)) (nI_add (k * 60) i) ?_
                refine lv_aload_n hx hb dX1_known_64 rfl (lv_at hl 0 rfl) ?_
                refine va_get (D := D) (ci := 1) (v := .ref (q 1)) (C := RX1) (T := TX1) (N := 7) hx hb hts hin hown hK hP 0 rfl rfl 0 (by decide) (hts (.fieldLink RX1 7 "ReferredNamesModel" "hand" "[I") (by decide +kernel)) (fun _ h9 => h9) rfl dX1_known_65 ?_
                refine lv_iload_n hx hb dX1_known_68 rfl (lv_at hl 2 rfl) ?_
                refine rb_ild hx hb hK hP 1 0 rfl rfl (i := i) (by omega) (by decide) dX1_known_69 ?_
                refine rb_ist hx hb hK hP hD hS 2 1 rfl rfl (i := (k * 60) + i) (by omega) (by decide) dX1_known_70 (fun H locs hP hD hS => ?_)
                rw [rn_k_upd2] at hP hD
                have hP : va_P D vwCl (wM h q cs fh n (upd (va_cpy fh fb 0 (k * 60) i) ((k * 60) + i) (fh i)) (upd fl k (nI n)) fg fr k) H := hP
                have hD : va_D A (wM h q cs fh n (upd (va_cpy fh fb 0 (k * 60) i) ((k * 60) + i) (fh i)) (upd fl k (nI n)) fg fr k) := hD
                refine lv_iinc (v := nI (i + 1)) (lv' := [(2, .int (nI (i + 1))), (0, .ref h), (1, .int (nI k))]) hx hb dX1_known_71 hl (k := 2) rfl (nI_1 i) (by decide) rfl (fun ls hl => ?_)
                refine lv_goto (tgt := 46) hx hb dX1_known_74 (by decide) ?_
                rw [rn_cpy_s] at hP hD
                exact ih (i + 1) H locs ls (by omega) hP hD hS (lv_sub hl [1, 2, 0] rfl)
          exact loop n 0 _ _ ls (by omega) (by rw [rn_cpy_0]; exact hP) (by rw [rn_cpy_0]; exact hD) hS (lv_sub hl [2, 1, 0] rfl)
      · rw [nI_eq (by omega) (by omega)] at c1
        exfalso; omega
  · rw [e2] at hret
    refine lv_aload_n hx hb dX1_known_0 rfl (lv_at hl 0 rfl) ?_
    refine rd_call (ci := 1) (b := h) (As := []) (rest := []) ⟨hx, hb, hml, hown, hts⟩ (kX1_place l D h q cs fh n fb fl fg fr k (by omega) (by omega) hby hbb hu) (cwV 0 hts gX1_known_X1_place rfl rfl rfl (by decide +kernel) ⟨Nat.le_of_ble_eq_true rfl, Nat.le_of_ble_eq_true rfl⟩) hK hP rfl rfl rfl rfl hl.1 rfl (Nat.le_of_ble_eq_true rfl) dX1_known_1 ⟨Nat.zero_le _, Nat.zero_le _⟩ ?_
    refine rb_top (y := (-1)) e1 ?_
    refine lv_istore_n (lv' := [(1, .int ((-1))), (0, .ref h)]) hx hb dX1_known_4 rfl hl (by decide) rfl (fun ls hl => ?_)
    refine lv_iload_n hx hb dX1_known_5 rfl (lv_at hl 0 rfl) ?_
    refine lv_if_ge (tgt := 25) hx hb dX1_known_6 (by decide) (fun c0 => ?_) (fun c0 => ?_)
    · exact absurd c0 (by decide)
    · refine lv_aload_n hx hb dX1_known_9 rfl (lv_at hl 1 rfl) ?_
      refine va_get (D := D) (ci := 1) (v := .int (nI k)) (C := RX1) (T := TX1) (N := 7) hx hb hts hin hown hK hP 0 rfl rfl 6 (by decide) (hts (.fieldLink RX1 31 "ReferredNamesModel" "known" "I") (by decide +kernel)) (fun _ h9 => h9) rfl dX1_known_10 ?_
      refine lv_sipush (v := nI 200) hx hb dX1_known_13 (by decide) ?_
      refine lv_icmp_ne (tgt := 25) hx hb dX1_known_16 (by decide) (fun c1 => ?_) (fun c1 => ?_)
      · rw [nI_eq (by omega) (by omega)] at c1
        exfalso; omega
      · rw [nI_eq (by omega) (by omega)] at c1
        refine lv_bipush (v := (-2)) hx hb dX1_known_19 (by decide) ?_
        refine lv_istore_n (lv' := [(1, .int ((-2))), (0, .ref h)]) hx hb dX1_known_21 rfl hl (by decide) rfl (fun ls hl => ?_)
        refine lv_goto (tgt := 101) hx hb dX1_known_22 (by decide) ?_
        refine lv_aload_n hx hb dX1_known_101 rfl (lv_at hl 1 rfl) ?_
        refine lv_iconst (v := nI 0) hx hb dX1_known_102 (by decide) ?_
        refine va_put (D := D) (ci := 1) (v := .int (nI 0)) (ty := .int) (C := RX1) (T := TX1) (N := 7) hx hb hts hin tyX1 tyX1_ok nmX1 hown hK hP hD hS 0 rfl rfl 1 (by decide) (hts (.fieldLink RX1 25 "ReferredNamesModel" "inHand" "I") (by decide +kernel)) (fun _ h9 => h9) rfl (by decide +kernel) rfl rfl (Nat.le_of_ble_eq_true rfl) dX1_known_103 (fun H locs hP hD hS => ?_)
        have hP : va_P D vwCl (wM h q cs fh 0 fb fl fg fr k) H := hP
        have hD : va_D A (wM h q cs fh 0 fb fl fg fr k) := hD
        refine lv_iload_n hx hb dX1_known_106 rfl (lv_at hl 0 rfl) ?_
        refine rb_top (y := (-2)) rfl ?_
        exact hret _ _ _ _ dX1_known_107 hP hD hS
abbrev rmX1_give : Room := { frames := 2, cells := 0, slots := 0, locals := 46 }
set_option maxHeartbeats 4000000 in
set_option maxRecDepth 100000 in
theorem kX1_give (l : Launch) (D : va_G) (h : Nat) (q : Nat → Nat) (cs : Nat → ClassId) (fh : Nat → Int32) (n : Nat) (fb fl fg fr : Nat → Int32) (k : Nat) (hn : n ≤ 60) (hk : k ≤ 200) (sz : Nat) (hby : ∀ i, (fh i).toInt8.toInt32 = fh i) (hbb : ∀ i, (fb i).toInt8.toInt32 = fb i) (hu : ∀ a b, a < b → b < k → rn_mt fh n fb fl a = true → rn_mt fh n fb fl b = true → False) : Met l yX1_give wsX1_give rmX1_give (wr_P D vwCl (tM cs) [.ref h] (wM h q cs fh n fb fl fg fr k) sz) (wr_Q D vwCl (tM cs) (wM h q cs fh n fb fl fg fr k) (wN h q cs (rn_gv fh n fb fl fg fr k).2) sz ((rn_gv fh n fb fl fg fr k).1)) 0 0 (va_A (wM h q cs fh n fb fl fg fr k) sz) := by
  refine wr_of (cc := cX1_give) (maxL := 2) (ty := .int) (by decide) rfl rfl (Nat.le_of_ble_eq_true rfl) ?_
  intro p e s m args below meth c ls Q A hx hb hml hown hts hK hA hP hD hS hl hret
  have hown : s.vm.findClass RX1 = some m.cls := hown
  have hin : ∀ w ∈ wsX10, w ∈ wsX1_give := by decide +kernel
  have hl : lv_has ls 2 [(0, .ref h)] := hl
  refine lv_aload_n hx hb dX1_give_0 rfl (lv_at hl 0 rfl) ?_
  refine va_get (D := D) (ci := 1) (v := .int (nI n)) (C := RX1) (T := TX1) (N := 7) hx hb hts hin hown hK hP 0 rfl rfl 1 (by decide) (hts (.fieldLink RX1 25 "ReferredNamesModel" "inHand" "I") (by decide +kernel)) (fun _ h9 => h9) rfl dX1_give_1 ?_
  refine lv_if_ne (tgt := 10) hx hb dX1_give_4 (by decide) (fun c0 => ?_) (fun c0 => ?_)
  · rw [show (0 : Int32) = nI 0 from rfl] at c0
    rw [nI_eq (by omega) (by omega)] at c0
    rw [rn_gv_p c0] at hret
    rcases rn_tk_c (fh := fh) (n := n) (fb := fb) (fl := fl) (fg := fg) (fr := fr) hk with ⟨j, hj, e1, e2⟩ | ⟨e1, hlt, e2⟩ | ⟨e1, hlt, e2⟩
    · rw [e2, rn_gs_j (by omega)] at hret
      refine lv_aload_n hx hb dX1_give_10 rfl (lv_at hl 0 rfl) ?_
      have c9 := kX1_known l D h q cs fh n fb fl fg fr k (by omega) (by omega) s.heap.size hby hbb hu
      rw [e2] at c9
      refine wr_call (ci := 1) (b := h) (As := []) (rest := []) (wr := []) ⟨hx, hb, hml, hown, hts⟩ (c9) (cwV 0 hts gX1_give_X1_known rfl rfl rfl (by decide +kernel) ⟨Nat.le_of_ble_eq_true rfl, Nat.le_of_ble_eq_true rfl⟩) hK hP hD hS hA [0, 1, 2, 3, 4, 5] [] rfl rfl (by decide) (by decide) (by decide) rfl rfl rfl rfl hl.1 rfl (Nat.le_of_ble_eq_true rfl) dX1_give_11 ⟨Nat.le_of_ble_eq_true rfl, Nat.le_of_ble_eq_true rfl⟩ (fun H locs hP hD hS => ?_)
      have hP : va_P D vwCl (wM h q cs fh 0 fb fl fg fr k) H := hP
      have hD : va_D A (wM h q cs fh 0 fb fl fg fr k) := hD
      refine rb_top (y := nI j) rfl ?_
      refine lv_istore_n (lv' := [(1, .int (nI j)), (0, .ref h)]) hx hb dX1_give_14 rfl hl (by decide) rfl (fun ls hl => ?_)
      refine lv_iload_n hx hb dX1_give_15 rfl (lv_at hl 0 rfl) ?_
      refine lv_if_ge (tgt := 21) hx hb dX1_give_16 (by decide) (fun c1 => ?_) (fun c1 => ?_)
      · rw [show (0 : Int32) = nI 0 from rfl] at c1
        rw [nI_leI (by omega) (by omega)] at c1
        refine lv_aload_n hx hb dX1_give_21 rfl (lv_at hl 1 rfl) ?_
        refine va_get (D := D) (ci := 1) (v := .ref (q 4)) (C := RX1) (T := TX1) (N := 7) hx hb hts hin hown hK hP 0 rfl rfl 4 (by decide) (hts (.fieldLink RX1 19 "ReferredNamesModel" "given" "[I") (by decide +kernel)) (fun _ h9 => h9) rfl dX1_give_22 ?_
        refine lv_iload_n hx hb dX1_give_25 rfl (lv_at hl 0 rfl) ?_
        refine lv_aload_n hx hb dX1_give_26 rfl (lv_at hl 1 rfl) ?_
        refine va_get (D := D) (ci := 1) (v := .ref (q 4)) (C := RX1) (T := TX1) (N := 7) hx hb hts hin hown hK hP 0 rfl rfl 4 (by decide) (hts (.fieldLink RX1 19 "ReferredNamesModel" "given" "[I") (by decide +kernel)) (fun _ h9 => h9) rfl dX1_give_27 ?_
        refine lv_iload_n hx hb dX1_give_30 rfl (lv_at hl 0 rfl) ?_
        refine rb_ild hx hb hK hP 4 3 rfl rfl (i := j) (by omega) (by decide) dX1_give_31 ?_
        refine lv_iconst (v := nI 1) hx hb dX1_give_32 (by decide) ?_
        refine lv_iadd hx hb dX1_give_33 ?_
        refine rb_ist hx hb hK hP hD hS 4 3 rfl rfl (i := j) (by omega) (by decide) dX1_give_34 (fun H locs hP hD hS => ?_)
        have hP : va_P D vwCl (wM h q cs fh 0 fb fl (upd fg j ((fg j) + (nI 1))) fr k) H := hP
        have hD : va_D A (wM h q cs fh 0 fb fl (upd fg j ((fg j) + (nI 1))) fr k) := hD
        refine lv_aload_n hx hb dX1_give_35 rfl (lv_at hl 1 rfl) ?_
        refine va_get (D := D) (ci := 1) (v := .ref (q 4)) (C := RX1) (T := TX1) (N := 7) hx hb hts hin hown hK hP 0 rfl rfl 4 (by decide) (hts (.fieldLink RX1 19 "ReferredNamesModel" "given" "[I") (by decide +kernel)) (fun _ h9 => h9) rfl dX1_give_36 ?_
        refine lv_iload_n hx hb dX1_give_39 rfl (lv_at hl 0 rfl) ?_
        refine rb_ild hx hb hK hP 4 3 rfl rfl (i := j) (by omega) (by decide) dX1_give_40 ?_
        refine lv_iconst (v := nI 1) hx hb dX1_give_41 (by decide) ?_
        refine lv_icmp_ne (tgt := 49) hx hb dX1_give_42 (by decide) (fun c2 => ?_) (fun c2 => ?_)
        · refine lv_iconst (v := (-1)) hx hb dX1_give_49 (by decide) ?_
          refine rb_top (y := (if rn_gi fg j = true then -1 else nI j)) ((if_pos (rn_gi_1 c2)).symm) ?_
          exact hret _ _ _ _ dX1_give_50 hP hD hS
        · refine lv_iload_n hx hb dX1_give_45 rfl (lv_at hl 0 rfl) ?_
          refine lv_goto (tgt := 50) hx hb dX1_give_46 (by decide) ?_
          refine rb_top (y := (if rn_gi fg j = true then -1 else nI j)) ((if_neg (rn_gi_0 c2)).symm) ?_
          exact hret _ _ _ _ dX1_give_50 hP hD hS
      · rw [show (0 : Int32) = nI 0 from rfl] at c1
        rw [nI_leI (by omega) (by omega)] at c1
        exfalso; omega
    · rw [e2, rn_gs_j (by omega)] at hret
      refine lv_aload_n hx hb dX1_give_10 rfl (lv_at hl 0 rfl) ?_
      have c9 := kX1_known l D h q cs fh n fb fl fg fr k (by omega) (by omega) s.heap.size hby hbb hu
      rw [e2] at c9
      refine wr_call (ci := 1) (b := h) (As := []) (rest := []) (wr := []) ⟨hx, hb, hml, hown, hts⟩ (c9) (cwV 0 hts gX1_give_X1_known rfl rfl rfl (by decide +kernel) ⟨Nat.le_of_ble_eq_true rfl, Nat.le_of_ble_eq_true rfl⟩) hK hP hD hS hA [0, 1, 2, 3, 4, 5] [] rfl rfl (by decide) (by decide) (by decide) rfl rfl rfl rfl hl.1 rfl (Nat.le_of_ble_eq_true rfl) dX1_give_11 ⟨Nat.le_of_ble_eq_true rfl, Nat.le_of_ble_eq_true rfl⟩ (fun H locs hP hD hS => ?_)
      have hP : va_P D vwCl (wM h q cs fh 0 (va_cpy fh fb 0 (k * 60) n) (upd fl k (nI n)) (upd fg k (nI 0)) (upd fr k (nI 0)) (k + 1)) H := hP
      have hD : va_D A (wM h q cs fh 0 (va_cpy fh fb 0 (k * 60) n) (upd fl k (nI n)) (upd fg k (nI 0)) (upd fr k (nI 0)) (k + 1)) := hD
      refine rb_top (y := nI k) rfl ?_
      refine lv_istore_n (lv' := [(1, .int (nI k)), (0, .ref h)]) hx hb dX1_give_14 rfl hl (by decide) rfl (fun ls hl => ?_)
      refine lv_iload_n hx hb dX1_give_15 rfl (lv_at hl 0 rfl) ?_
      refine lv_if_ge (tgt := 21) hx hb dX1_give_16 (by decide) (fun c1 => ?_) (fun c1 => ?_)
      · rw [show (0 : Int32) = nI 0 from rfl] at c1
        rw [nI_leI (by omega) (by omega)] at c1
        refine lv_aload_n hx hb dX1_give_21 rfl (lv_at hl 1 rfl) ?_
        refine va_get (D := D) (ci := 1) (v := .ref (q 4)) (C := RX1) (T := TX1) (N := 7) hx hb hts hin hown hK hP 0 rfl rfl 4 (by decide) (hts (.fieldLink RX1 19 "ReferredNamesModel" "given" "[I") (by decide +kernel)) (fun _ h9 => h9) rfl dX1_give_22 ?_
        refine lv_iload_n hx hb dX1_give_25 rfl (lv_at hl 0 rfl) ?_
        refine lv_aload_n hx hb dX1_give_26 rfl (lv_at hl 1 rfl) ?_
        refine va_get (D := D) (ci := 1) (v := .ref (q 4)) (C := RX1) (T := TX1) (N := 7) hx hb hts hin hown hK hP 0 rfl rfl 4 (by decide) (hts (.fieldLink RX1 19 "ReferredNamesModel" "given" "[I") (by decide +kernel)) (fun _ h9 => h9) rfl dX1_give_27 ?_
        refine lv_iload_n hx hb dX1_give_30 rfl (lv_at hl 0 rfl) ?_
        refine rb_ild hx hb hK hP 4 3 rfl rfl (i := k) (by omega) (by decide) dX1_give_31 ?_
        refine lv_iconst (v := nI 1) hx hb dX1_give_32 (by decide) ?_
        refine lv_iadd hx hb dX1_give_33 ?_
        refine rb_ist hx hb hK hP hD hS 4 3 rfl rfl (i := k) (by omega) (by decide) dX1_give_34 (fun H locs hP hD hS => ?_)
        have hP : va_P D vwCl (wM h q cs fh 0 (va_cpy fh fb 0 (k * 60) n) (upd fl k (nI n)) (upd (upd fg k (nI 0)) k (((upd fg k (nI 0)) k) + (nI 1))) (upd fr k (nI 0)) (k + 1)) H := hP
        have hD : va_D A (wM h q cs fh 0 (va_cpy fh fb 0 (k * 60) n) (upd fl k (nI n)) (upd (upd fg k (nI 0)) k (((upd fg k (nI 0)) k) + (nI 1))) (upd fr k (nI 0)) (k + 1)) := hD
        refine lv_aload_n hx hb dX1_give_35 rfl (lv_at hl 1 rfl) ?_
        refine va_get (D := D) (ci := 1) (v := .ref (q 4)) (C := RX1) (T := TX1) (N := 7) hx hb hts hin hown hK hP 0 rfl rfl 4 (by decide) (hts (.fieldLink RX1 19 "ReferredNamesModel" "given" "[I") (by decide +kernel)) (fun _ h9 => h9) rfl dX1_give_36 ?_
        refine lv_iload_n hx hb dX1_give_39 rfl (lv_at hl 0 rfl) ?_
        refine rb_ild hx hb hK hP 4 3 rfl rfl (i := k) (by omega) (by decide) dX1_give_40 ?_
        refine lv_iconst (v := nI 1) hx hb dX1_give_41 (by decide) ?_
        refine lv_icmp_ne (tgt := 49) hx hb dX1_give_42 (by decide) (fun c2 => ?_) (fun c2 => ?_)
        · refine lv_iconst (v := (-1)) hx hb dX1_give_49 (by decide) ?_
          refine rb_top (y := (if rn_gi (upd fg k (nI 0)) k = true then -1 else nI k)) ((if_pos (rn_gi_1 c2)).symm) ?_
          exact hret _ _ _ _ dX1_give_50 hP hD hS
        · refine lv_iload_n hx hb dX1_give_45 rfl (lv_at hl 0 rfl) ?_
          refine lv_goto (tgt := 50) hx hb dX1_give_46 (by decide) ?_
          refine rb_top (y := (if rn_gi (upd fg k (nI 0)) k = true then -1 else nI k)) ((if_neg (rn_gi_0 c2)).symm) ?_
          exact hret _ _ _ _ dX1_give_50 hP hD hS
      · rw [show (0 : Int32) = nI 0 from rfl] at c1
        rw [nI_leI (by omega) (by omega)] at c1
        exfalso; omega
    · rw [e2, rn_gs_n] at hret
      refine lv_aload_n hx hb dX1_give_10 rfl (lv_at hl 0 rfl) ?_
      have c9 := kX1_known l D h q cs fh n fb fl fg fr k (by omega) (by omega) s.heap.size hby hbb hu
      rw [e2] at c9
      refine wr_call (ci := 1) (b := h) (As := []) (rest := []) (wr := []) ⟨hx, hb, hml, hown, hts⟩ (c9) (cwV 0 hts gX1_give_X1_known rfl rfl rfl (by decide +kernel) ⟨Nat.le_of_ble_eq_true rfl, Nat.le_of_ble_eq_true rfl⟩) hK hP hD hS hA [0, 1, 2, 3, 4, 5] [] rfl rfl (by decide) (by decide) (by decide) rfl rfl rfl rfl hl.1 rfl (Nat.le_of_ble_eq_true rfl) dX1_give_11 ⟨Nat.le_of_ble_eq_true rfl, Nat.le_of_ble_eq_true rfl⟩ (fun H locs hP hD hS => ?_)
      have hP : va_P D vwCl (wM h q cs fh 0 fb fl fg fr k) H := hP
      have hD : va_D A (wM h q cs fh 0 fb fl fg fr k) := hD
      refine rb_top (y := (-2)) rfl ?_
      refine lv_istore_n (lv' := [(1, .int ((-2))), (0, .ref h)]) hx hb dX1_give_14 rfl hl (by decide) rfl (fun ls hl => ?_)
      refine lv_iload_n hx hb dX1_give_15 rfl (lv_at hl 0 rfl) ?_
      refine lv_if_ge (tgt := 21) hx hb dX1_give_16 (by decide) (fun c1 => ?_) (fun c1 => ?_)
      · exact absurd c1 (by decide)
      · refine lv_iload_n hx hb dX1_give_19 rfl (lv_at hl 0 rfl) ?_
        refine rb_top (y := (-2)) rfl ?_
        exact hret _ _ _ _ dX1_give_20 hP hD hS
  · rw [show (0 : Int32) = nI 0 from rfl] at c0
    rw [nI_eq (by omega) (by omega)] at c0
    rw [rn_gv_0 c0] at hret
    refine lv_bipush (v := (-3)) hx hb dX1_give_7 (by decide) ?_
    refine rb_top (y := (-3)) rfl ?_
    exact hret _ _ _ _ dX1_give_9 hP hD hS
abbrev rmX1_refer : Room := { frames := 2, cells := 0, slots := 0, locals := 46 }
set_option maxHeartbeats 4000000 in
set_option maxRecDepth 100000 in
theorem kX1_refer (l : Launch) (D : va_G) (h : Nat) (q : Nat → Nat) (cs : Nat → ClassId) (fh : Nat → Int32) (n : Nat) (fb fl fg fr : Nat → Int32) (k : Nat) (hn : n ≤ 60) (hk : k ≤ 200) (sz : Nat) (hby : ∀ i, (fh i).toInt8.toInt32 = fh i) (hbb : ∀ i, (fb i).toInt8.toInt32 = fb i) (hu : ∀ a b, a < b → b < k → rn_mt fh n fb fl a = true → rn_mt fh n fb fl b = true → False) : Met l yX1_refer wsX1_refer rmX1_refer (wr_P D vwCl (tM cs) [.ref h] (wM h q cs fh n fb fl fg fr k) sz) (wr_Q D vwCl (tM cs) (wM h q cs fh n fb fl fg fr k) (wN h q cs (rn_rf fh n fb fl fg fr k).2) sz ((rn_rf fh n fb fl fg fr k).1)) 0 0 (va_A (wM h q cs fh n fb fl fg fr k) sz) := by
  refine wr_of (cc := cX1_refer) (maxL := 2) (ty := .int) (by decide) rfl rfl (Nat.le_of_ble_eq_true rfl) ?_
  intro p e s m args below meth c ls Q A hx hb hml hown hts hK hA hP hD hS hl hret
  have hown : s.vm.findClass RX1 = some m.cls := hown
  have hin : ∀ w ∈ wsX10, w ∈ wsX1_refer := by decide +kernel
  have hl : lv_has ls 2 [(0, .ref h)] := hl
  refine lv_aload_n hx hb dX1_refer_0 rfl (lv_at hl 0 rfl) ?_
  refine va_get (D := D) (ci := 1) (v := .int (nI n)) (C := RX1) (T := TX1) (N := 7) hx hb hts hin hown hK hP 0 rfl rfl 1 (by decide) (hts (.fieldLink RX1 25 "ReferredNamesModel" "inHand" "I") (by decide +kernel)) (fun _ h9 => h9) rfl dX1_refer_1 ?_
  refine lv_if_ne (tgt := 10) hx hb dX1_refer_4 (by decide) (fun c0 => ?_) (fun c0 => ?_)
  · rw [show (0 : Int32) = nI 0 from rfl] at c0
    rw [nI_eq (by omega) (by omega)] at c0
    rw [rn_rf_p c0] at hret
    rcases rn_tk_c (fh := fh) (n := n) (fb := fb) (fl := fl) (fg := fg) (fr := fr) hk with ⟨j, hj, e1, e2⟩ | ⟨e1, hlt, e2⟩ | ⟨e1, hlt, e2⟩
    · rw [e2, rn_rs_j (by omega)] at hret
      refine lv_aload_n hx hb dX1_refer_10 rfl (lv_at hl 0 rfl) ?_
      have c9 := kX1_known l D h q cs fh n fb fl fg fr k (by omega) (by omega) s.heap.size hby hbb hu
      rw [e2] at c9
      refine wr_call (ci := 1) (b := h) (As := []) (rest := []) (wr := []) ⟨hx, hb, hml, hown, hts⟩ (c9) (cwV 0 hts gX1_refer_X1_known rfl rfl rfl (by decide +kernel) ⟨Nat.le_of_ble_eq_true rfl, Nat.le_of_ble_eq_true rfl⟩) hK hP hD hS hA [0, 1, 2, 3, 4, 5] [] rfl rfl (by decide) (by decide) (by decide) rfl rfl rfl rfl hl.1 rfl (Nat.le_of_ble_eq_true rfl) dX1_refer_11 ⟨Nat.le_of_ble_eq_true rfl, Nat.le_of_ble_eq_true rfl⟩ (fun H locs hP hD hS => ?_)
      have hP : va_P D vwCl (wM h q cs fh 0 fb fl fg fr k) H := hP
      have hD : va_D A (wM h q cs fh 0 fb fl fg fr k) := hD
      refine rb_top (y := nI j) rfl ?_
      refine lv_istore_n (lv' := [(1, .int (nI j)), (0, .ref h)]) hx hb dX1_refer_14 rfl hl (by decide) rfl (fun ls hl => ?_)
      refine lv_iload_n hx hb dX1_refer_15 rfl (lv_at hl 0 rfl) ?_
      refine lv_if_lt (tgt := 33) hx hb dX1_refer_16 (by decide) (fun c1 => ?_) (fun c1 => ?_)
      · rw [show (0 : Int32) = nI 0 from rfl] at c1
        rw [nI_ltI (by omega) (by omega)] at c1
        exfalso; omega
      · rw [show (0 : Int32) = nI 0 from rfl] at c1
        rw [nI_ltI (by omega) (by omega)] at c1
        refine lv_aload_n hx hb dX1_refer_19 rfl (lv_at hl 1 rfl) ?_
        refine va_get (D := D) (ci := 1) (v := .ref (q 5)) (C := RX1) (T := TX1) (N := 7) hx hb hts hin hown hK hP 0 rfl rfl 5 (by decide) (hts (.fieldLink RX1 22 "ReferredNamesModel" "referred" "[I") (by decide +kernel)) (fun _ h9 => h9) rfl dX1_refer_20 ?_
        refine lv_iload_n hx hb dX1_refer_23 rfl (lv_at hl 0 rfl) ?_
        refine lv_aload_n hx hb dX1_refer_24 rfl (lv_at hl 1 rfl) ?_
        refine va_get (D := D) (ci := 1) (v := .ref (q 5)) (C := RX1) (T := TX1) (N := 7) hx hb hts hin hown hK hP 0 rfl rfl 5 (by decide) (hts (.fieldLink RX1 22 "ReferredNamesModel" "referred" "[I") (by decide +kernel)) (fun _ h9 => h9) rfl dX1_refer_25 ?_
        refine lv_iload_n hx hb dX1_refer_28 rfl (lv_at hl 0 rfl) ?_
        refine rb_ild hx hb hK hP 5 4 rfl rfl (i := j) (by omega) (by decide) dX1_refer_29 ?_
        refine lv_iconst (v := nI 1) hx hb dX1_refer_30 (by decide) ?_
        refine lv_iadd hx hb dX1_refer_31 ?_
        refine rb_ist hx hb hK hP hD hS 5 4 rfl rfl (i := j) (by omega) (by decide) dX1_refer_32 (fun H locs hP hD hS => ?_)
        have hP : va_P D vwCl (wM h q cs fh 0 fb fl fg (upd fr j ((fr j) + (nI 1))) k) H := hP
        have hD : va_D A (wM h q cs fh 0 fb fl fg (upd fr j ((fr j) + (nI 1))) k) := hD
        refine lv_iload_n hx hb dX1_refer_33 rfl (lv_at hl 0 rfl) ?_
        refine rb_top (y := nI j) rfl ?_
        exact hret _ _ _ _ dX1_refer_34 hP hD hS
    · rw [e2, rn_rs_j (by omega)] at hret
      refine lv_aload_n hx hb dX1_refer_10 rfl (lv_at hl 0 rfl) ?_
      have c9 := kX1_known l D h q cs fh n fb fl fg fr k (by omega) (by omega) s.heap.size hby hbb hu
      rw [e2] at c9
      refine wr_call (ci := 1) (b := h) (As := []) (rest := []) (wr := []) ⟨hx, hb, hml, hown, hts⟩ (c9) (cwV 0 hts gX1_refer_X1_known rfl rfl rfl (by decide +kernel) ⟨Nat.le_of_ble_eq_true rfl, Nat.le_of_ble_eq_true rfl⟩) hK hP hD hS hA [0, 1, 2, 3, 4, 5] [] rfl rfl (by decide) (by decide) (by decide) rfl rfl rfl rfl hl.1 rfl (Nat.le_of_ble_eq_true rfl) dX1_refer_11 ⟨Nat.le_of_ble_eq_true rfl, Nat.le_of_ble_eq_true rfl⟩ (fun H locs hP hD hS => ?_)
      have hP : va_P D vwCl (wM h q cs fh 0 (va_cpy fh fb 0 (k * 60) n) (upd fl k (nI n)) (upd fg k (nI 0)) (upd fr k (nI 0)) (k + 1)) H := hP
      have hD : va_D A (wM h q cs fh 0 (va_cpy fh fb 0 (k * 60) n) (upd fl k (nI n)) (upd fg k (nI 0)) (upd fr k (nI 0)) (k + 1)) := hD
      refine rb_top (y := nI k) rfl ?_
      refine lv_istore_n (lv' := [(1, .int (nI k)), (0, .ref h)]) hx hb dX1_refer_14 rfl hl (by decide) rfl (fun ls hl => ?_)
      refine lv_iload_n hx hb dX1_refer_15 rfl (lv_at hl 0 rfl) ?_
      refine lv_if_lt (tgt := 33) hx hb dX1_refer_16 (by decide) (fun c1 => ?_) (fun c1 => ?_)
      · rw [show (0 : Int32) = nI 0 from rfl] at c1
        rw [nI_ltI (by omega) (by omega)] at c1
        exfalso; omega
      · rw [show (0 : Int32) = nI 0 from rfl] at c1
        rw [nI_ltI (by omega) (by omega)] at c1
        refine lv_aload_n hx hb dX1_refer_19 rfl (lv_at hl 1 rfl) ?_
        refine va_get (D := D) (ci := 1) (v := .ref (q 5)) (C := RX1) (T := TX1) (N := 7) hx hb hts hin hown hK hP 0 rfl rfl 5 (by decide) (hts (.fieldLink RX1 22 "ReferredNamesModel" "referred" "[I") (by decide +kernel)) (fun _ h9 => h9) rfl dX1_refer_20 ?_
        refine lv_iload_n hx hb dX1_refer_23 rfl (lv_at hl 0 rfl) ?_
        refine lv_aload_n hx hb dX1_refer_24 rfl (lv_at hl 1 rfl) ?_
        refine va_get (D := D) (ci := 1) (v := .ref (q 5)) (C := RX1) (T := TX1) (N := 7) hx hb hts hin hown hK hP 0 rfl rfl 5 (by decide) (hts (.fieldLink RX1 22 "ReferredNamesModel" "referred" "[I") (by decide +kernel)) (fun _ h9 => h9) rfl dX1_refer_25 ?_
        refine lv_iload_n hx hb dX1_refer_28 rfl (lv_at hl 0 rfl) ?_
        refine rb_ild hx hb hK hP 5 4 rfl rfl (i := k) (by omega) (by decide) dX1_refer_29 ?_
        refine lv_iconst (v := nI 1) hx hb dX1_refer_30 (by decide) ?_
        refine lv_iadd hx hb dX1_refer_31 ?_
        refine rb_ist hx hb hK hP hD hS 5 4 rfl rfl (i := k) (by omega) (by decide) dX1_refer_32 (fun H locs hP hD hS => ?_)
        have hP : va_P D vwCl (wM h q cs fh 0 (va_cpy fh fb 0 (k * 60) n) (upd fl k (nI n)) (upd fg k (nI 0)) (upd (upd fr k (nI 0)) k (((upd fr k (nI 0)) k) + (nI 1))) (k + 1)) H := hP
        have hD : va_D A (wM h q cs fh 0 (va_cpy fh fb 0 (k * 60) n) (upd fl k (nI n)) (upd fg k (nI 0)) (upd (upd fr k (nI 0)) k (((upd fr k (nI 0)) k) + (nI 1))) (k + 1)) := hD
        refine lv_iload_n hx hb dX1_refer_33 rfl (lv_at hl 0 rfl) ?_
        refine rb_top (y := nI k) rfl ?_
        exact hret _ _ _ _ dX1_refer_34 hP hD hS
    · rw [e2, rn_rs_n] at hret
      refine lv_aload_n hx hb dX1_refer_10 rfl (lv_at hl 0 rfl) ?_
      have c9 := kX1_known l D h q cs fh n fb fl fg fr k (by omega) (by omega) s.heap.size hby hbb hu
      rw [e2] at c9
      refine wr_call (ci := 1) (b := h) (As := []) (rest := []) (wr := []) ⟨hx, hb, hml, hown, hts⟩ (c9) (cwV 0 hts gX1_refer_X1_known rfl rfl rfl (by decide +kernel) ⟨Nat.le_of_ble_eq_true rfl, Nat.le_of_ble_eq_true rfl⟩) hK hP hD hS hA [0, 1, 2, 3, 4, 5] [] rfl rfl (by decide) (by decide) (by decide) rfl rfl rfl rfl hl.1 rfl (Nat.le_of_ble_eq_true rfl) dX1_refer_11 ⟨Nat.le_of_ble_eq_true rfl, Nat.le_of_ble_eq_true rfl⟩ (fun H locs hP hD hS => ?_)
      have hP : va_P D vwCl (wM h q cs fh 0 fb fl fg fr k) H := hP
      have hD : va_D A (wM h q cs fh 0 fb fl fg fr k) := hD
      refine rb_top (y := (-2)) rfl ?_
      refine lv_istore_n (lv' := [(1, .int ((-2))), (0, .ref h)]) hx hb dX1_refer_14 rfl hl (by decide) rfl (fun ls hl => ?_)
      refine lv_iload_n hx hb dX1_refer_15 rfl (lv_at hl 0 rfl) ?_
      refine lv_if_lt (tgt := 33) hx hb dX1_refer_16 (by decide) (fun c1 => ?_) (fun c1 => ?_)
      · refine lv_iload_n hx hb dX1_refer_33 rfl (lv_at hl 0 rfl) ?_
        refine rb_top (y := (-2)) rfl ?_
        exact hret _ _ _ _ dX1_refer_34 hP hD hS
      · exact absurd (by decide) c1
  · rw [show (0 : Int32) = nI 0 from rfl] at c0
    rw [nI_eq (by omega) (by omega)] at c0
    rw [rn_rf_0 c0] at hret
    refine lv_bipush (v := (-3)) hx hb dX1_refer_7 (by decide) ?_
    refine rb_top (y := (-3)) rfl ?_
    exact hret _ _ _ _ dX1_refer_9 hP hD hS
abbrev rmX1_clear : Room := { frames := 0, cells := 0, slots := 0, locals := 0 }
set_option maxHeartbeats 4000000 in
set_option maxRecDepth 100000 in
theorem kX1_clear (l : Launch) (D : va_G) (h : Nat) (q : Nat → Nat) (cs : Nat → ClassId) (fh : Nat → Int32) (n : Nat) (fb fl fg fr : Nat → Int32) (k : Nat) (hn : n ≤ 60) (hk : k ≤ 200) (sz : Nat) : Met l yX1_clear wsX1_clear rmX1_clear (wr_P D vwCl (tM cs) [.ref h] (wM h q cs fh n fb fl fg fr k) sz) (wr_Q D vwCl (tM cs) (wM h q cs fh n fb fl fg fr k) (wM h q cs fh 0 fb fl fg fr 0) sz (nI k)) 0 0 (va_A (wM h q cs fh n fb fl fg fr k) sz) := by
  refine wr_of (cc := cX1_clear) (maxL := 2) (ty := .int) (by decide) rfl rfl (Nat.le_of_ble_eq_true rfl) ?_
  intro p e s m args below meth c ls Q A hx hb hml hown hts hK hA hP hD hS hl hret
  have hown : s.vm.findClass RX1 = some m.cls := hown
  have hin : ∀ w ∈ wsX10, w ∈ wsX1_clear := by decide +kernel
  have hl : lv_has ls 2 [(0, .ref h)] := hl
  refine lv_aload_n hx hb dX1_clear_0 rfl (lv_at hl 0 rfl) ?_
  refine va_get (D := D) (ci := 1) (v := .int (nI k)) (C := RX1) (T := TX1) (N := 7) hx hb hts hin hown hK hP 0 rfl rfl 6 (by decide) (hts (.fieldLink RX1 31 "ReferredNamesModel" "known" "I") (by decide +kernel)) (fun _ h9 => h9) rfl dX1_clear_1 ?_
  refine lv_istore_n (lv' := [(1, .int (nI k)), (0, .ref h)]) hx hb dX1_clear_4 rfl hl (by decide) rfl (fun ls hl => ?_)
  refine lv_aload_n hx hb dX1_clear_5 rfl (lv_at hl 1 rfl) ?_
  refine lv_iconst (v := nI 0) hx hb dX1_clear_6 (by decide) ?_
  refine va_put (D := D) (ci := 1) (v := .int (nI 0)) (ty := .int) (C := RX1) (T := TX1) (N := 7) hx hb hts hin tyX1 tyX1_ok nmX1 hown hK hP hD hS 0 rfl rfl 6 (by decide) (hts (.fieldLink RX1 31 "ReferredNamesModel" "known" "I") (by decide +kernel)) (fun _ h9 => h9) rfl (by decide +kernel) rfl rfl (Nat.le_of_ble_eq_true rfl) dX1_clear_7 (fun H locs hP hD hS => ?_)
  have hP : va_P D vwCl (wM h q cs fh n fb fl fg fr 0) H := hP
  have hD : va_D A (wM h q cs fh n fb fl fg fr 0) := hD
  refine lv_aload_n hx hb dX1_clear_10 rfl (lv_at hl 1 rfl) ?_
  refine lv_iconst (v := nI 0) hx hb dX1_clear_11 (by decide) ?_
  refine va_put (D := D) (ci := 1) (v := .int (nI 0)) (ty := .int) (C := RX1) (T := TX1) (N := 7) hx hb hts hin tyX1 tyX1_ok nmX1 hown hK hP hD hS 0 rfl rfl 1 (by decide) (hts (.fieldLink RX1 25 "ReferredNamesModel" "inHand" "I") (by decide +kernel)) (fun _ h9 => h9) rfl (by decide +kernel) rfl rfl (Nat.le_of_ble_eq_true rfl) dX1_clear_12 (fun H locs hP hD hS => ?_)
  have hP : va_P D vwCl (wM h q cs fh 0 fb fl fg fr 0) H := hP
  have hD : va_D A (wM h q cs fh 0 fb fl fg fr 0) := hD
  refine lv_iload_n hx hb dX1_clear_15 rfl (lv_at hl 0 rfl) ?_
  refine rb_top (y := nI k) rfl ?_
  exact hret _ _ _ _ dX1_clear_16 hP hD hS
end
section
theorem rn_new_byte (cA : ClassId) (n : Nat) : vp_cell cA (n, .inl (fun _ => 0)) = arrV cA n (fun _ => defaultValue .byte) := rfl
theorem rn_new_int (cA : ClassId) (n : Nat) : vp_cell cA (n, .inl (fun _ => 0)) = arrV cA n (fun _ => defaultValue .int) := rfl
/-- the reference's cells when it is new -/
abbrev wM0 (h : Nat) (q : Nat → Nat) (cs : Nat → ClassId) : va_W := [(h, .inr (1, [.ref (q 1), .int (nI 0), .ref (q 2), .ref (q 3), .ref (q 4), .ref (q 5), .int (nI 0)])), (q 1, .inl (cs 1, 60, .inl (fun _ => 0))), (q 2, .inl (cs 2, 12000, .inl (fun _ => 0))), (q 3, .inl (cs 3, 200, .inl (fun _ => 0))), (q 4, .inl (cs 4, 200, .inl (fun _ => 0))), (q 5, .inl (cs 5, 200, .inl (fun _ => 0)))]
theorem wM0_eq (h : Nat) (q : Nat → Nat) (cs : Nat → ClassId) : wM h q cs (fun _ => 0) 0 (fun _ => 0) (fun _ => 0) (fun _ => 0) (fun _ => 0) 0 = wM0 h q cs := by
  unfold wM wM0
  rw [rn_k_0]
abbrev rmX0_init : Room := { frames := 1, cells := 5, slots := 12660, locals := 20 }
set_option maxHeartbeats 4000000 in
set_option maxRecDepth 100000 in
theorem kX0_init (l : Launch) (D : va_G) (h sz : Nat) : Met l yX0_init wsX0_init rmX0_init (wr_P D vwCl [] [.ref h] [(h, .inr (0, [.null, .int 0, .null, .null, .null, .null, .int 0]))] sz) (ct_Q (S := (Nat → Nat) × (Nat → ClassId)) D vwCl (fun u => tX u.2) [(h, .inr (0, [.null, .int 0, .null, .null, .null, .null, .int 0]))] (fun u => wX h u.1 u.2 (fun _ => 0) 0 (fun _ => 0) (fun _ => 0) (fun _ => 0) (fun _ => 0) 0) sz) 5 12660 (va_A [(h, .inr (0, [.null, .int 0, .null, .null, .null, .null, .int 0]))] sz) := by
  refine ct_of (cc := cX0_init) (maxL := 1) (by decide) rfl (Nat.le_of_ble_eq_true rfl) ?_
  intro p e s m args below meth c ls Q A hx hb hml hown hts hnm hK hA hP hD hS hl hret
  have hown : s.vm.findClass RX0 = some m.cls := hown
  have hin : ∀ w ∈ wsX00, w ∈ wsX0_init := by decide +kernel
  have hin2 : meth.name = "<init>" := hnm
  have hl : lv_has ls 1 [(0, .ref h)] := hl
  refine lv_aload_n hx hb dX0_init_0 rfl (lv_at hl 0 rfl) ?_
  refine W.objInit hx hb hown (hts (.methodLink RX0 1 objectInit) (by decide +kernel)) (hts (.instanceMethod objectInit) (by decide +kernel)) (hts _ (List.mem_cons_of_mem _ (List.mem_append_left _ (List.mem_of_getElem? (i := 2) rfl)))) rfl (by rw [hml]; exact hl.1) rfl dX0_init_1 (Nat.le_of_ble_eq_true rfl) (Nat.le_of_ble_eq_true rfl) ?_
  refine W.eq (g2 := F0 m 4 ls []) rfl ?_
  refine lv_aload_n hx hb dX0_init_4 rfl (lv_at hl 0 rfl) ?_
  refine lv_bipush (v := nI 60) hx hb dX0_init_5 (by decide) ?_
  refine va_newa (atype := .byte) (n := nI 60) (ty := .byte) (N' := 60) (a0 := (60, .inl (fun _ => 0))) hx hb (hts (.arrayClass .byte) (by decide +kernel)) rfl hK hP hD hS hA (fun cA => rn_new_byte cA 60) (nI_pos (n := 60) (by decide)) (nI_clamp (n := 60) (by decide)) (Nat.le_of_ble_eq_true rfl) (Nat.le_of_ble_eq_true rfl) (Nat.le_of_ble_eq_true rfl) dX0_init_7 (fun q1 c1 H hK hP hD hS => ?_)
  refine W.widen (k := 1) (n := 60) (Nat.le_of_ble_eq_true rfl) (Nat.le_of_ble_eq_true rfl) ?_
  have hK : va_K D vwCl [(c1, .byte)] s := hK
  have hP : va_P D vwCl ([(h, .inr (0, [.null, .int 0, .null, .null, .null, .null, .int 0])), (q1, .inl (c1, 60, .inl (fun _ => 0)))]) H := hP
  have hD : va_D A ([(h, .inr (0, [.null, .int 0, .null, .null, .null, .null, .int 0])), (q1, .inl (c1, 60, .inl (fun _ => 0)))]) := hD
  refine va_putF (D := D) (ci := 0) (v := .ref q1) (ty := (.array .byte)) (C := RX0) (T := TX0) (N := 7) hx hb hts hin tyX0 tyX0_ok nmX0 hown hK hP hD hS 0 rfl rfl 0 (by decide) (hts (.fieldLink RX0 9 "ReferredNames" "hand" "[B") (by decide +kernel)) (fun _ h9 => h9) rfl hin2 rfl (by decide +kernel) rfl rfl (Nat.le_of_ble_eq_true rfl) dX0_init_9 (fun H locs hP hD hS => ?_)
  have hP : va_P D vwCl ([(h, .inr (0, [.ref q1, .int 0, .null, .null, .null, .null, .int 0])), (q1, .inl (c1, 60, .inl (fun _ => 0)))]) H := hP
  have hD : va_D A ([(h, .inr (0, [.ref q1, .int 0, .null, .null, .null, .null, .int 0])), (q1, .inl (c1, 60, .inl (fun _ => 0)))]) := hD
  refine lv_aload_n hx hb dX0_init_12 rfl (lv_at hl 0 rfl) ?_
  refine lv_iconst (v := nI 0) hx hb dX0_init_13 (by decide) ?_
  refine va_put (D := D) (ci := 0) (v := .int (nI 0)) (ty := .int) (C := RX0) (T := TX0) (N := 7) hx hb hts hin tyX0 tyX0_ok nmX0 hown hK hP hD hS 0 rfl rfl 1 (by decide) (hts (.fieldLink RX0 13 "ReferredNames" "handLength" "I") (by decide +kernel)) (fun _ h9 => h9) rfl (by decide +kernel) rfl rfl (Nat.le_of_ble_eq_true rfl) dX0_init_14 (fun H locs hP hD hS => ?_)
  have hP : va_P D vwCl ([(h, .inr (0, [.ref q1, .int (nI 0), .null, .null, .null, .null, .int 0])), (q1, .inl (c1, 60, .inl (fun _ => 0)))]) H := hP
  have hD : va_D A ([(h, .inr (0, [.ref q1, .int (nI 0), .null, .null, .null, .null, .int 0])), (q1, .inl (c1, 60, .inl (fun _ => 0)))]) := hD
  refine lv_aload_n hx hb dX0_init_17 rfl (lv_at hl 0 rfl) ?_
  refine lv_sipush (v := nI 12000) hx hb dX0_init_18 (by decide) ?_
  refine va_newa (atype := .byte) (n := nI 12000) (ty := .byte) (N' := 12000) (a0 := (12000, .inl (fun _ => 0))) hx hb (hts (.arrayClass .byte) (by decide +kernel)) rfl hK hP hD hS hA (fun cA => rn_new_byte cA 12000) (nI_pos (n := 12000) (by decide)) (nI_clamp (n := 12000) (by decide)) (Nat.le_of_ble_eq_true rfl) (Nat.le_of_ble_eq_true rfl) (Nat.le_of_ble_eq_true rfl) dX0_init_21 (fun q2 c2 H hK hP hD hS => ?_)
  refine W.widen (k := 2) (n := 12060) (Nat.le_of_ble_eq_true rfl) (Nat.le_of_ble_eq_true rfl) ?_
  have hK : va_K D vwCl [(c1, .byte), (c2, .byte)] s := hK
  have hP : va_P D vwCl ([(h, .inr (0, [.ref q1, .int (nI 0), .null, .null, .null, .null, .int 0])), (q1, .inl (c1, 60, .inl (fun _ => 0))), (q2, .inl (c2, 12000, .inl (fun _ => 0)))]) H := hP
  have hD : va_D A ([(h, .inr (0, [.ref q1, .int (nI 0), .null, .null, .null, .null, .int 0])), (q1, .inl (c1, 60, .inl (fun _ => 0))), (q2, .inl (c2, 12000, .inl (fun _ => 0)))]) := hD
  refine va_putF (D := D) (ci := 0) (v := .ref q2) (ty := (.array .byte)) (C := RX0) (T := TX0) (N := 7) hx hb hts hin tyX0 tyX0_ok nmX0 hown hK hP hD hS 0 rfl rfl 2 (by decide) (hts (.fieldLink RX0 17 "ReferredNames" "bytes" "[B") (by decide +kernel)) (fun _ h9 => h9) rfl hin2 rfl (by decide +kernel) rfl rfl (Nat.le_of_ble_eq_true rfl) dX0_init_23 (fun H locs hP hD hS => ?_)
  have hP : va_P D vwCl ([(h, .inr (0, [.ref q1, .int (nI 0), .ref q2, .null, .null, .null, .int 0])), (q1, .inl (c1, 60, .inl (fun _ => 0))), (q2, .inl (c2, 12000, .inl (fun _ => 0)))]) H := hP
  have hD : va_D A ([(h, .inr (0, [.ref q1, .int (nI 0), .ref q2, .null, .null, .null, .int 0])), (q1, .inl (c1, 60, .inl (fun _ => 0))), (q2, .inl (c2, 12000, .inl (fun _ => 0)))]) := hD
  refine lv_aload_n hx hb dX0_init_26 rfl (lv_at hl 0 rfl) ?_
  refine lv_sipush (v := nI 200) hx hb dX0_init_27 (by decide) ?_
  refine va_newa (atype := .int) (n := nI 200) (ty := .int) (N' := 200) (a0 := (200, .inl (fun _ => 0))) hx hb (hts (.arrayClass .int) (by decide +kernel)) rfl hK hP hD hS hA (fun cA => rn_new_int cA 200) (nI_pos (n := 200) (by decide)) (nI_clamp (n := 200) (by decide)) (Nat.le_of_ble_eq_true rfl) (Nat.le_of_ble_eq_true rfl) (Nat.le_of_ble_eq_true rfl) dX0_init_30 (fun q3 c3 H hK hP hD hS => ?_)
  refine W.widen (k := 3) (n := 12260) (Nat.le_of_ble_eq_true rfl) (Nat.le_of_ble_eq_true rfl) ?_
  have hK : va_K D vwCl [(c1, .byte), (c2, .byte), (c3, .int)] s := hK
  have hP : va_P D vwCl ([(h, .inr (0, [.ref q1, .int (nI 0), .ref q2, .null, .null, .null, .int 0])), (q1, .inl (c1, 60, .inl (fun _ => 0))), (q2, .inl (c2, 12000, .inl (fun _ => 0))), (q3, .inl (c3, 200, .inl (fun _ => 0)))]) H := hP
  have hD : va_D A ([(h, .inr (0, [.ref q1, .int (nI 0), .ref q2, .null, .null, .null, .int 0])), (q1, .inl (c1, 60, .inl (fun _ => 0))), (q2, .inl (c2, 12000, .inl (fun _ => 0))), (q3, .inl (c3, 200, .inl (fun _ => 0)))]) := hD
  refine va_putF (D := D) (ci := 0) (v := .ref q3) (ty := (.array .int)) (C := RX0) (T := TX0) (N := 7) hx hb hts hin tyX0 tyX0_ok nmX0 hown hK hP hD hS 0 rfl rfl 3 (by decide) (hts (.fieldLink RX0 20 "ReferredNames" "lengths" "[I") (by decide +kernel)) (fun _ h9 => h9) rfl hin2 rfl (by decide +kernel) rfl rfl (Nat.le_of_ble_eq_true rfl) dX0_init_32 (fun H locs hP hD hS => ?_)
  have hP : va_P D vwCl ([(h, .inr (0, [.ref q1, .int (nI 0), .ref q2, .ref q3, .null, .null, .int 0])), (q1, .inl (c1, 60, .inl (fun _ => 0))), (q2, .inl (c2, 12000, .inl (fun _ => 0))), (q3, .inl (c3, 200, .inl (fun _ => 0)))]) H := hP
  have hD : va_D A ([(h, .inr (0, [.ref q1, .int (nI 0), .ref q2, .ref q3, .null, .null, .int 0])), (q1, .inl (c1, 60, .inl (fun _ => 0))), (q2, .inl (c2, 12000, .inl (fun _ => 0))), (q3, .inl (c3, 200, .inl (fun _ => 0)))]) := hD
  refine lv_aload_n hx hb dX0_init_35 rfl (lv_at hl 0 rfl) ?_
  refine lv_sipush (v := nI 200) hx hb dX0_init_36 (by decide) ?_
  refine va_newa (atype := .int) (n := nI 200) (ty := .int) (N' := 200) (a0 := (200, .inl (fun _ => 0))) hx hb (hts (.arrayClass .int) (by decide +kernel)) rfl hK hP hD hS hA (fun cA => rn_new_int cA 200) (nI_pos (n := 200) (by decide)) (nI_clamp (n := 200) (by decide)) (Nat.le_of_ble_eq_true rfl) (Nat.le_of_ble_eq_true rfl) (Nat.le_of_ble_eq_true rfl) dX0_init_39 (fun q4 c4 H hK hP hD hS => ?_)
  refine W.widen (k := 4) (n := 12460) (Nat.le_of_ble_eq_true rfl) (Nat.le_of_ble_eq_true rfl) ?_
  have hK : va_K D vwCl [(c1, .byte), (c2, .byte), (c3, .int), (c4, .int)] s := hK
  have hP : va_P D vwCl ([(h, .inr (0, [.ref q1, .int (nI 0), .ref q2, .ref q3, .null, .null, .int 0])), (q1, .inl (c1, 60, .inl (fun _ => 0))), (q2, .inl (c2, 12000, .inl (fun _ => 0))), (q3, .inl (c3, 200, .inl (fun _ => 0))), (q4, .inl (c4, 200, .inl (fun _ => 0)))]) H := hP
  have hD : va_D A ([(h, .inr (0, [.ref q1, .int (nI 0), .ref q2, .ref q3, .null, .null, .int 0])), (q1, .inl (c1, 60, .inl (fun _ => 0))), (q2, .inl (c2, 12000, .inl (fun _ => 0))), (q3, .inl (c3, 200, .inl (fun _ => 0))), (q4, .inl (c4, 200, .inl (fun _ => 0)))]) := hD
  refine va_putF (D := D) (ci := 0) (v := .ref q4) (ty := (.array .int)) (C := RX0) (T := TX0) (N := 7) hx hb hts hin tyX0 tyX0_ok nmX0 hown hK hP hD hS 0 rfl rfl 4 (by decide) (hts (.fieldLink RX0 24 "ReferredNames" "givings" "[I") (by decide +kernel)) (fun _ h9 => h9) rfl hin2 rfl (by decide +kernel) rfl rfl (Nat.le_of_ble_eq_true rfl) dX0_init_41 (fun H locs hP hD hS => ?_)
  have hP : va_P D vwCl ([(h, .inr (0, [.ref q1, .int (nI 0), .ref q2, .ref q3, .ref q4, .null, .int 0])), (q1, .inl (c1, 60, .inl (fun _ => 0))), (q2, .inl (c2, 12000, .inl (fun _ => 0))), (q3, .inl (c3, 200, .inl (fun _ => 0))), (q4, .inl (c4, 200, .inl (fun _ => 0)))]) H := hP
  have hD : va_D A ([(h, .inr (0, [.ref q1, .int (nI 0), .ref q2, .ref q3, .ref q4, .null, .int 0])), (q1, .inl (c1, 60, .inl (fun _ => 0))), (q2, .inl (c2, 12000, .inl (fun _ => 0))), (q3, .inl (c3, 200, .inl (fun _ => 0))), (q4, .inl (c4, 200, .inl (fun _ => 0)))]) := hD
  refine lv_aload_n hx hb dX0_init_44 rfl (lv_at hl 0 rfl) ?_
  refine lv_sipush (v := nI 200) hx hb dX0_init_45 (by decide) ?_
  refine va_newa (atype := .int) (n := nI 200) (ty := .int) (N' := 200) (a0 := (200, .inl (fun _ => 0))) hx hb (hts (.arrayClass .int) (by decide +kernel)) rfl hK hP hD hS hA (fun cA => rn_new_int cA 200) (nI_pos (n := 200) (by decide)) (nI_clamp (n := 200) (by decide)) (Nat.le_of_ble_eq_true rfl) (Nat.le_of_ble_eq_true rfl) (Nat.le_of_ble_eq_true rfl) dX0_init_48 (fun q5 c5 H hK hP hD hS => ?_)
  refine W.widen (k := 5) (n := 12660) (Nat.le_of_ble_eq_true rfl) (Nat.le_of_ble_eq_true rfl) ?_
  have hK : va_K D vwCl [(c1, .byte), (c2, .byte), (c3, .int), (c4, .int), (c5, .int)] s := hK
  have hP : va_P D vwCl ([(h, .inr (0, [.ref q1, .int (nI 0), .ref q2, .ref q3, .ref q4, .null, .int 0])), (q1, .inl (c1, 60, .inl (fun _ => 0))), (q2, .inl (c2, 12000, .inl (fun _ => 0))), (q3, .inl (c3, 200, .inl (fun _ => 0))), (q4, .inl (c4, 200, .inl (fun _ => 0))), (q5, .inl (c5, 200, .inl (fun _ => 0)))]) H := hP
  have hD : va_D A ([(h, .inr (0, [.ref q1, .int (nI 0), .ref q2, .ref q3, .ref q4, .null, .int 0])), (q1, .inl (c1, 60, .inl (fun _ => 0))), (q2, .inl (c2, 12000, .inl (fun _ => 0))), (q3, .inl (c3, 200, .inl (fun _ => 0))), (q4, .inl (c4, 200, .inl (fun _ => 0))), (q5, .inl (c5, 200, .inl (fun _ => 0)))]) := hD
  refine va_putF (D := D) (ci := 0) (v := .ref q5) (ty := (.array .int)) (C := RX0) (T := TX0) (N := 7) hx hb hts hin tyX0 tyX0_ok nmX0 hown hK hP hD hS 0 rfl rfl 5 (by decide) (hts (.fieldLink RX0 27 "ReferredNames" "referrals" "[I") (by decide +kernel)) (fun _ h9 => h9) rfl hin2 rfl (by decide +kernel) rfl rfl (Nat.le_of_ble_eq_true rfl) dX0_init_50 (fun H locs hP hD hS => ?_)
  have hP : va_P D vwCl ([(h, .inr (0, [.ref q1, .int (nI 0), .ref q2, .ref q3, .ref q4, .ref q5, .int 0])), (q1, .inl (c1, 60, .inl (fun _ => 0))), (q2, .inl (c2, 12000, .inl (fun _ => 0))), (q3, .inl (c3, 200, .inl (fun _ => 0))), (q4, .inl (c4, 200, .inl (fun _ => 0))), (q5, .inl (c5, 200, .inl (fun _ => 0)))]) H := hP
  have hD : va_D A ([(h, .inr (0, [.ref q1, .int (nI 0), .ref q2, .ref q3, .ref q4, .ref q5, .int 0])), (q1, .inl (c1, 60, .inl (fun _ => 0))), (q2, .inl (c2, 12000, .inl (fun _ => 0))), (q3, .inl (c3, 200, .inl (fun _ => 0))), (q4, .inl (c4, 200, .inl (fun _ => 0))), (q5, .inl (c5, 200, .inl (fun _ => 0)))]) := hD
  refine lv_aload_n hx hb dX0_init_53 rfl (lv_at hl 0 rfl) ?_
  refine lv_iconst (v := nI 0) hx hb dX0_init_54 (by decide) ?_
  refine va_put (D := D) (ci := 0) (v := .int (nI 0)) (ty := .int) (C := RX0) (T := TX0) (N := 7) hx hb hts hin tyX0 tyX0_ok nmX0 hown hK hP hD hS 0 rfl rfl 6 (by decide) (hts (.fieldLink RX0 30 "ReferredNames" "known" "I") (by decide +kernel)) (fun _ h9 => h9) rfl (by decide +kernel) rfl rfl (Nat.le_of_ble_eq_true rfl) dX0_init_55 (fun H locs hP hD hS => ?_)
  have hP : va_P D vwCl ([(h, .inr (0, [.ref q1, .int (nI 0), .ref q2, .ref q3, .ref q4, .ref q5, .int (nI 0)])), (q1, .inl (c1, 60, .inl (fun _ => 0))), (q2, .inl (c2, 12000, .inl (fun _ => 0))), (q3, .inl (c3, 200, .inl (fun _ => 0))), (q4, .inl (c4, 200, .inl (fun _ => 0))), (q5, .inl (c5, 200, .inl (fun _ => 0)))]) H := hP
  have hD : va_D A ([(h, .inr (0, [.ref q1, .int (nI 0), .ref q2, .ref q3, .ref q4, .ref q5, .int (nI 0)])), (q1, .inl (c1, 60, .inl (fun _ => 0))), (q2, .inl (c2, 12000, .inl (fun _ => 0))), (q3, .inl (c3, 200, .inl (fun _ => 0))), (q4, .inl (c4, 200, .inl (fun _ => 0))), (q5, .inl (c5, 200, .inl (fun _ => 0)))]) := hD
  obtain ⟨qq, rfl, rfl, rfl, rfl, rfl⟩ : ∃ qq : Nat → Nat, qq 1 = q1 ∧ qq 2 = q2 ∧ qq 3 = q3 ∧ qq 4 = q4 ∧ qq 5 = q5 := ⟨fun i => if i = 1 then q1 else if i = 2 then q2 else if i = 3 then q3 else if i = 4 then q4 else q5, rfl, rfl, rfl, rfl, rfl⟩
  obtain ⟨cq, rfl, rfl, rfl, rfl, rfl⟩ : ∃ cq : Nat → ClassId, cq 1 = c1 ∧ cq 2 = c2 ∧ cq 3 = c3 ∧ cq 4 = c4 ∧ cq 5 = c5 := ⟨fun i => if i = 1 then c1 else if i = 2 then c2 else if i = 3 then c3 else if i = 4 then c4 else c5, rfl, rfl, rfl, rfl, rfl⟩
  exact hret (qq, cq) _ _ _ _ dX0_init_58 hK hP hD hS
abbrev rmX1_init : Room := { frames := 1, cells := 5, slots := 12660, locals := 20 }
set_option maxHeartbeats 4000000 in
set_option maxRecDepth 100000 in
theorem kX1_init (l : Launch) (D : va_G) (h sz : Nat) : Met l yX1_init wsX1_init rmX1_init (wr_P D vwCl [] [.ref h] [(h, .inr (1, [.null, .int 0, .null, .null, .null, .null, .int 0]))] sz) (ct_Q (S := (Nat → Nat) × (Nat → ClassId)) D vwCl (fun u => tM u.2) [(h, .inr (1, [.null, .int 0, .null, .null, .null, .null, .int 0]))] (fun u => wM0 h u.1 u.2) sz) 5 12660 (va_A [(h, .inr (1, [.null, .int 0, .null, .null, .null, .null, .int 0]))] sz) := by
  refine ct_of (cc := cX1_init) (maxL := 1) (by decide) rfl (Nat.le_of_ble_eq_true rfl) ?_
  intro p e s m args below meth c ls Q A hx hb hml hown hts hnm hK hA hP hD hS hl hret
  have hown : s.vm.findClass RX1 = some m.cls := hown
  have hin : ∀ w ∈ wsX10, w ∈ wsX1_init := by decide +kernel
  have hin2 : meth.name = "<init>" := hnm
  have hl : lv_has ls 1 [(0, .ref h)] := hl
  refine lv_aload_n hx hb dX1_init_0 rfl (lv_at hl 0 rfl) ?_
  refine W.objInit hx hb hown (hts (.methodLink RX1 1 objectInit) (by decide +kernel)) (hts (.instanceMethod objectInit) (by decide +kernel)) (hts _ (List.mem_cons_of_mem _ (List.mem_append_left _ (List.mem_of_getElem? (i := 2) rfl)))) rfl (by rw [hml]; exact hl.1) rfl dX1_init_1 (Nat.le_of_ble_eq_true rfl) (Nat.le_of_ble_eq_true rfl) ?_
  refine W.eq (g2 := F0 m 4 ls []) rfl ?_
  refine lv_aload_n hx hb dX1_init_4 rfl (lv_at hl 0 rfl) ?_
  refine lv_bipush (v := nI 60) hx hb dX1_init_5 (by decide) ?_
  refine va_newa (atype := .int) (n := nI 60) (ty := .int) (N' := 60) (a0 := (60, .inl (fun _ => 0))) hx hb (hts (.arrayClass .int) (by decide +kernel)) rfl hK hP hD hS hA (fun cA => rn_new_int cA 60) (nI_pos (n := 60) (by decide)) (nI_clamp (n := 60) (by decide)) (Nat.le_of_ble_eq_true rfl) (Nat.le_of_ble_eq_true rfl) (Nat.le_of_ble_eq_true rfl) dX1_init_7 (fun q1 c1 H hK hP hD hS => ?_)
  refine W.widen (k := 1) (n := 60) (Nat.le_of_ble_eq_true rfl) (Nat.le_of_ble_eq_true rfl) ?_
  have hK : va_K D vwCl [(c1, .int)] s := hK
  have hP : va_P D vwCl ([(h, .inr (1, [.null, .int 0, .null, .null, .null, .null, .int 0])), (q1, .inl (c1, 60, .inl (fun _ => 0)))]) H := hP
  have hD : va_D A ([(h, .inr (1, [.null, .int 0, .null, .null, .null, .null, .int 0])), (q1, .inl (c1, 60, .inl (fun _ => 0)))]) := hD
  refine va_putF (D := D) (ci := 1) (v := .ref q1) (ty := (.array .int)) (C := RX1) (T := TX1) (N := 7) hx hb hts hin tyX1 tyX1_ok nmX1 hown hK hP hD hS 0 rfl rfl 0 (by decide) (hts (.fieldLink RX1 7 "ReferredNamesModel" "hand" "[I") (by decide +kernel)) (fun _ h9 => h9) rfl hin2 rfl (by decide +kernel) rfl rfl (Nat.le_of_ble_eq_true rfl) dX1_init_9 (fun H locs hP hD hS => ?_)
  have hP : va_P D vwCl ([(h, .inr (1, [.ref q1, .int 0, .null, .null, .null, .null, .int 0])), (q1, .inl (c1, 60, .inl (fun _ => 0)))]) H := hP
  have hD : va_D A ([(h, .inr (1, [.ref q1, .int 0, .null, .null, .null, .null, .int 0])), (q1, .inl (c1, 60, .inl (fun _ => 0)))]) := hD
  refine lv_aload_n hx hb dX1_init_12 rfl (lv_at hl 0 rfl) ?_
  refine lv_sipush (v := nI 12000) hx hb dX1_init_13 (by decide) ?_
  refine va_newa (atype := .int) (n := nI 12000) (ty := .int) (N' := 12000) (a0 := (12000, .inl (fun _ => 0))) hx hb (hts (.arrayClass .int) (by decide +kernel)) rfl hK hP hD hS hA (fun cA => rn_new_int cA 12000) (nI_pos (n := 12000) (by decide)) (nI_clamp (n := 12000) (by decide)) (Nat.le_of_ble_eq_true rfl) (Nat.le_of_ble_eq_true rfl) (Nat.le_of_ble_eq_true rfl) dX1_init_16 (fun q2 c2 H hK hP hD hS => ?_)
  refine W.widen (k := 2) (n := 12060) (Nat.le_of_ble_eq_true rfl) (Nat.le_of_ble_eq_true rfl) ?_
  have hK : va_K D vwCl [(c1, .int), (c2, .int)] s := hK
  have hP : va_P D vwCl ([(h, .inr (1, [.ref q1, .int 0, .null, .null, .null, .null, .int 0])), (q1, .inl (c1, 60, .inl (fun _ => 0))), (q2, .inl (c2, 12000, .inl (fun _ => 0)))]) H := hP
  have hD : va_D A ([(h, .inr (1, [.ref q1, .int 0, .null, .null, .null, .null, .int 0])), (q1, .inl (c1, 60, .inl (fun _ => 0))), (q2, .inl (c2, 12000, .inl (fun _ => 0)))]) := hD
  refine va_putF (D := D) (ci := 1) (v := .ref q2) (ty := (.array .int)) (C := RX1) (T := TX1) (N := 7) hx hb hts hin tyX1 tyX1_ok nmX1 hown hK hP hD hS 0 rfl rfl 2 (by decide) (hts (.fieldLink RX1 13 "ReferredNamesModel" "bytes" "[I") (by decide +kernel)) (fun _ h9 => h9) rfl hin2 rfl (by decide +kernel) rfl rfl (Nat.le_of_ble_eq_true rfl) dX1_init_18 (fun H locs hP hD hS => ?_)
  have hP : va_P D vwCl ([(h, .inr (1, [.ref q1, .int 0, .ref q2, .null, .null, .null, .int 0])), (q1, .inl (c1, 60, .inl (fun _ => 0))), (q2, .inl (c2, 12000, .inl (fun _ => 0)))]) H := hP
  have hD : va_D A ([(h, .inr (1, [.ref q1, .int 0, .ref q2, .null, .null, .null, .int 0])), (q1, .inl (c1, 60, .inl (fun _ => 0))), (q2, .inl (c2, 12000, .inl (fun _ => 0)))]) := hD
  refine lv_aload_n hx hb dX1_init_21 rfl (lv_at hl 0 rfl) ?_
  refine lv_sipush (v := nI 200) hx hb dX1_init_22 (by decide) ?_
  refine va_newa (atype := .int) (n := nI 200) (ty := .int) (N' := 200) (a0 := (200, .inl (fun _ => 0))) hx hb (hts (.arrayClass .int) (by decide +kernel)) rfl hK hP hD hS hA (fun cA => rn_new_int cA 200) (nI_pos (n := 200) (by decide)) (nI_clamp (n := 200) (by decide)) (Nat.le_of_ble_eq_true rfl) (Nat.le_of_ble_eq_true rfl) (Nat.le_of_ble_eq_true rfl) dX1_init_25 (fun q3 c3 H hK hP hD hS => ?_)
  refine W.widen (k := 3) (n := 12260) (Nat.le_of_ble_eq_true rfl) (Nat.le_of_ble_eq_true rfl) ?_
  have hK : va_K D vwCl [(c1, .int), (c2, .int), (c3, .int)] s := hK
  have hP : va_P D vwCl ([(h, .inr (1, [.ref q1, .int 0, .ref q2, .null, .null, .null, .int 0])), (q1, .inl (c1, 60, .inl (fun _ => 0))), (q2, .inl (c2, 12000, .inl (fun _ => 0))), (q3, .inl (c3, 200, .inl (fun _ => 0)))]) H := hP
  have hD : va_D A ([(h, .inr (1, [.ref q1, .int 0, .ref q2, .null, .null, .null, .int 0])), (q1, .inl (c1, 60, .inl (fun _ => 0))), (q2, .inl (c2, 12000, .inl (fun _ => 0))), (q3, .inl (c3, 200, .inl (fun _ => 0)))]) := hD
  refine va_putF (D := D) (ci := 1) (v := .ref q3) (ty := (.array .int)) (C := RX1) (T := TX1) (N := 7) hx hb hts hin tyX1 tyX1_ok nmX1 hown hK hP hD hS 0 rfl rfl 3 (by decide) (hts (.fieldLink RX1 16 "ReferredNamesModel" "sizes" "[I") (by decide +kernel)) (fun _ h9 => h9) rfl hin2 rfl (by decide +kernel) rfl rfl (Nat.le_of_ble_eq_true rfl) dX1_init_27 (fun H locs hP hD hS => ?_)
  have hP : va_P D vwCl ([(h, .inr (1, [.ref q1, .int 0, .ref q2, .ref q3, .null, .null, .int 0])), (q1, .inl (c1, 60, .inl (fun _ => 0))), (q2, .inl (c2, 12000, .inl (fun _ => 0))), (q3, .inl (c3, 200, .inl (fun _ => 0)))]) H := hP
  have hD : va_D A ([(h, .inr (1, [.ref q1, .int 0, .ref q2, .ref q3, .null, .null, .int 0])), (q1, .inl (c1, 60, .inl (fun _ => 0))), (q2, .inl (c2, 12000, .inl (fun _ => 0))), (q3, .inl (c3, 200, .inl (fun _ => 0)))]) := hD
  refine lv_aload_n hx hb dX1_init_30 rfl (lv_at hl 0 rfl) ?_
  refine lv_sipush (v := nI 200) hx hb dX1_init_31 (by decide) ?_
  refine va_newa (atype := .int) (n := nI 200) (ty := .int) (N' := 200) (a0 := (200, .inl (fun _ => 0))) hx hb (hts (.arrayClass .int) (by decide +kernel)) rfl hK hP hD hS hA (fun cA => rn_new_int cA 200) (nI_pos (n := 200) (by decide)) (nI_clamp (n := 200) (by decide)) (Nat.le_of_ble_eq_true rfl) (Nat.le_of_ble_eq_true rfl) (Nat.le_of_ble_eq_true rfl) dX1_init_34 (fun q4 c4 H hK hP hD hS => ?_)
  refine W.widen (k := 4) (n := 12460) (Nat.le_of_ble_eq_true rfl) (Nat.le_of_ble_eq_true rfl) ?_
  have hK : va_K D vwCl [(c1, .int), (c2, .int), (c3, .int), (c4, .int)] s := hK
  have hP : va_P D vwCl ([(h, .inr (1, [.ref q1, .int 0, .ref q2, .ref q3, .null, .null, .int 0])), (q1, .inl (c1, 60, .inl (fun _ => 0))), (q2, .inl (c2, 12000, .inl (fun _ => 0))), (q3, .inl (c3, 200, .inl (fun _ => 0))), (q4, .inl (c4, 200, .inl (fun _ => 0)))]) H := hP
  have hD : va_D A ([(h, .inr (1, [.ref q1, .int 0, .ref q2, .ref q3, .null, .null, .int 0])), (q1, .inl (c1, 60, .inl (fun _ => 0))), (q2, .inl (c2, 12000, .inl (fun _ => 0))), (q3, .inl (c3, 200, .inl (fun _ => 0))), (q4, .inl (c4, 200, .inl (fun _ => 0)))]) := hD
  refine va_putF (D := D) (ci := 1) (v := .ref q4) (ty := (.array .int)) (C := RX1) (T := TX1) (N := 7) hx hb hts hin tyX1 tyX1_ok nmX1 hown hK hP hD hS 0 rfl rfl 4 (by decide) (hts (.fieldLink RX1 19 "ReferredNamesModel" "given" "[I") (by decide +kernel)) (fun _ h9 => h9) rfl hin2 rfl (by decide +kernel) rfl rfl (Nat.le_of_ble_eq_true rfl) dX1_init_36 (fun H locs hP hD hS => ?_)
  have hP : va_P D vwCl ([(h, .inr (1, [.ref q1, .int 0, .ref q2, .ref q3, .ref q4, .null, .int 0])), (q1, .inl (c1, 60, .inl (fun _ => 0))), (q2, .inl (c2, 12000, .inl (fun _ => 0))), (q3, .inl (c3, 200, .inl (fun _ => 0))), (q4, .inl (c4, 200, .inl (fun _ => 0)))]) H := hP
  have hD : va_D A ([(h, .inr (1, [.ref q1, .int 0, .ref q2, .ref q3, .ref q4, .null, .int 0])), (q1, .inl (c1, 60, .inl (fun _ => 0))), (q2, .inl (c2, 12000, .inl (fun _ => 0))), (q3, .inl (c3, 200, .inl (fun _ => 0))), (q4, .inl (c4, 200, .inl (fun _ => 0)))]) := hD
  refine lv_aload_n hx hb dX1_init_39 rfl (lv_at hl 0 rfl) ?_
  refine lv_sipush (v := nI 200) hx hb dX1_init_40 (by decide) ?_
  refine va_newa (atype := .int) (n := nI 200) (ty := .int) (N' := 200) (a0 := (200, .inl (fun _ => 0))) hx hb (hts (.arrayClass .int) (by decide +kernel)) rfl hK hP hD hS hA (fun cA => rn_new_int cA 200) (nI_pos (n := 200) (by decide)) (nI_clamp (n := 200) (by decide)) (Nat.le_of_ble_eq_true rfl) (Nat.le_of_ble_eq_true rfl) (Nat.le_of_ble_eq_true rfl) dX1_init_43 (fun q5 c5 H hK hP hD hS => ?_)
  refine W.widen (k := 5) (n := 12660) (Nat.le_of_ble_eq_true rfl) (Nat.le_of_ble_eq_true rfl) ?_
  have hK : va_K D vwCl [(c1, .int), (c2, .int), (c3, .int), (c4, .int), (c5, .int)] s := hK
  have hP : va_P D vwCl ([(h, .inr (1, [.ref q1, .int 0, .ref q2, .ref q3, .ref q4, .null, .int 0])), (q1, .inl (c1, 60, .inl (fun _ => 0))), (q2, .inl (c2, 12000, .inl (fun _ => 0))), (q3, .inl (c3, 200, .inl (fun _ => 0))), (q4, .inl (c4, 200, .inl (fun _ => 0))), (q5, .inl (c5, 200, .inl (fun _ => 0)))]) H := hP
  have hD : va_D A ([(h, .inr (1, [.ref q1, .int 0, .ref q2, .ref q3, .ref q4, .null, .int 0])), (q1, .inl (c1, 60, .inl (fun _ => 0))), (q2, .inl (c2, 12000, .inl (fun _ => 0))), (q3, .inl (c3, 200, .inl (fun _ => 0))), (q4, .inl (c4, 200, .inl (fun _ => 0))), (q5, .inl (c5, 200, .inl (fun _ => 0)))]) := hD
  refine va_putF (D := D) (ci := 1) (v := .ref q5) (ty := (.array .int)) (C := RX1) (T := TX1) (N := 7) hx hb hts hin tyX1 tyX1_ok nmX1 hown hK hP hD hS 0 rfl rfl 5 (by decide) (hts (.fieldLink RX1 22 "ReferredNamesModel" "referred" "[I") (by decide +kernel)) (fun _ h9 => h9) rfl hin2 rfl (by decide +kernel) rfl rfl (Nat.le_of_ble_eq_true rfl) dX1_init_45 (fun H locs hP hD hS => ?_)
  have hP : va_P D vwCl ([(h, .inr (1, [.ref q1, .int 0, .ref q2, .ref q3, .ref q4, .ref q5, .int 0])), (q1, .inl (c1, 60, .inl (fun _ => 0))), (q2, .inl (c2, 12000, .inl (fun _ => 0))), (q3, .inl (c3, 200, .inl (fun _ => 0))), (q4, .inl (c4, 200, .inl (fun _ => 0))), (q5, .inl (c5, 200, .inl (fun _ => 0)))]) H := hP
  have hD : va_D A ([(h, .inr (1, [.ref q1, .int 0, .ref q2, .ref q3, .ref q4, .ref q5, .int 0])), (q1, .inl (c1, 60, .inl (fun _ => 0))), (q2, .inl (c2, 12000, .inl (fun _ => 0))), (q3, .inl (c3, 200, .inl (fun _ => 0))), (q4, .inl (c4, 200, .inl (fun _ => 0))), (q5, .inl (c5, 200, .inl (fun _ => 0)))]) := hD
  obtain ⟨qq, rfl, rfl, rfl, rfl, rfl⟩ : ∃ qq : Nat → Nat, qq 1 = q1 ∧ qq 2 = q2 ∧ qq 3 = q3 ∧ qq 4 = q4 ∧ qq 5 = q5 := ⟨fun i => if i = 1 then q1 else if i = 2 then q2 else if i = 3 then q3 else if i = 4 then q4 else q5, rfl, rfl, rfl, rfl, rfl⟩
  obtain ⟨cq, rfl, rfl, rfl, rfl, rfl⟩ : ∃ cq : Nat → ClassId, cq 1 = c1 ∧ cq 2 = c2 ∧ cq 3 = c3 ∧ cq 4 = c4 ∧ cq 5 = c5 := ⟨fun i => if i = 1 then c1 else if i = 2 then c2 else if i = 3 then c3 else if i = 4 then c4 else c5, rfl, rfl, rfl, rfl, rfl⟩
  exact hret (qq, cq) _ _ _ _ dX1_init_48 hK hP hD hS
end
section
/-! What stays true of the state between calls; T: a bound of the counts. -/
def rn_I (T : Nat) (fh : Nat → Int32) (n : Nat) (fb fl fg fr : Nat → Int32) (k : Nat) : Prop :=
  n ≤ 60 ∧ k ≤ 200 ∧ (∀ i, (fh i).toInt8.toInt32 = fh i) ∧ (∀ i, (fb i).toInt8.toInt32 = fb i) ∧ (∀ j, j < k → ∃ y : Nat, 1 ≤ y ∧ y ≤ 60 ∧ fl j = nI y) ∧ (∀ j, j < k → ∃ y : Nat, y ≤ T ∧ fg j = nI y) ∧ (∀ j, j < k → ∃ y : Nat, y ≤ T ∧ fr j = nI y) ∧
  ∀ a b y : Nat, a < b → b < k → y ≤ 60 → fl a = nI y → fl b = nI y → ∃ i, i < y ∧ ¬ fb (a * 60 + i) = fb (b * 60 + i)
abbrev rn_J (T : Nat) (u : rn_S) : Prop := rn_I T u.1 u.2.1 u.2.2.1 u.2.2.2.1 u.2.2.2.2.1 u.2.2.2.2.2.1 u.2.2.2.2.2.2
section IV
variable {T T' : Nat} {fh fb fl fg fr : Nat → Int32} {n k j : Nat}
theorem rn_I_mono (h : T ≤ T') (I : rn_I T fh n fb fl fg fr k) : rn_I T' fh n fb fl fg fr k := by
  obtain ⟨h1, h2, h3, h4, h5, h6, h7, h8⟩ := I
  refine ⟨h1, h2, h3, h4, h5, fun j hj => ?_, fun j hj => ?_, h8⟩
  · obtain ⟨y, hy, e⟩ := h6 j hj
    exact ⟨y, Nat.le_trans hy h, e⟩
  · obtain ⟨y, hy, e⟩ := h7 j hj
    exact ⟨y, Nat.le_trans hy h, e⟩
theorem rn_I_len (I : rn_I T fh n fb fl fg fr k) : ∀ j, j < k → ∃ y : Nat, y ≤ 60 ∧ fl j = nI y := fun j hj => by
  obtain ⟨y, _, h2, h3⟩ := I.2.2.2.2.1 j hj
  exact ⟨y, h2, h3⟩
theorem rn_I_g (hT : T < 2 ^ 30) (I : rn_I T fh n fb fl fg fr k) : ∀ j, j < k → ∃ y : Nat, y < 2 ^ 30 ∧ fg j = nI y := fun j hj => by
  obtain ⟨y, h2, h3⟩ := I.2.2.2.2.2.1 j hj
  exact ⟨y, by omega, h3⟩
theorem rn_I_r (hT : T < 2 ^ 30) (I : rn_I T fh n fb fl fg fr k) : ∀ j, j < k → ∃ y : Nat, y < 2 ^ 30 ∧ fr j = nI y := fun j hj => by
  obtain ⟨y, h2, h3⟩ := I.2.2.2.2.2.2.1 j hj
  exact ⟨y, by omega, h3⟩
/-- one match alone -/
theorem rn_I_u (I : rn_I T fh n fb fl fg fr k) : ∀ a b, a < b → b < k → rn_mt fh n fb fl a = true → rn_mt fh n fb fl b = true → False := by
  intro a b hab hb pa pb
  obtain ⟨a1, a2⟩ := of_decide_eq_true pa
  obtain ⟨b1, b2⟩ := of_decide_eq_true pb
  obtain ⟨i, hi, hne⟩ := I.2.2.2.2.2.2.2 a b n hab hb I.1 a1 b1
  exact hne ((a2 i hi).trans (b2 i hi).symm)
theorem rn_I_n {n' : Nat} (hn : n' ≤ 60) (I : rn_I T fh n fb fl fg fr k) : rn_I T fh n' fb fl fg fr k := ⟨hn, I.2⟩
theorem rn_I_h {fh' : Nat → Int32} (hh : ∀ i, (fh' i).toInt8.toInt32 = fh' i) (I : rn_I T fh n fb fl fg fr k) : rn_I T fh' n fb fl fg fr k := ⟨I.1, I.2.1, hh, I.2.2.2⟩
theorem rn_I_cl (I : rn_I T fh n fb fl fg fr k) : rn_I T fh 0 fb fl fg fr 0 := ⟨by omega, by omega, I.2.2.1, I.2.2.2.1, fun j hj => absurd hj (by omega), fun j hj => absurd hj (by omega), fun j hj => absurd hj (by omega), fun a b y h1 h2 => absurd h2 (by omega)⟩
theorem rn_I_give (hj : j < k) (I : rn_I T fh n fb fl fg fr k) : rn_I (T + 1) fh n fb fl (upd fg j (fg j + nI 1)) fr k := by
  obtain ⟨h1, h2, h3, h4, h5, h6, h7, h8⟩ := rn_I_mono (Nat.le_succ T) I
  refine ⟨h1, h2, h3, h4, h5, fun x hx => ?_, h7, h8⟩
  by_cases q : x = j
  · subst q
    obtain ⟨y, hy, e⟩ := I.2.2.2.2.2.1 x hx
    exact ⟨y + 1, by omega, by rw [pk_us, e, nI_add]⟩
  · rw [pk_un q]; exact h6 x hx
theorem rn_I_refer (hj : j < k) (I : rn_I T fh n fb fl fg fr k) : rn_I (T + 1) fh n fb fl fg (upd fr j (fr j + nI 1)) k := by
  obtain ⟨h1, h2, h3, h4, h5, h6, h7, h8⟩ := rn_I_mono (Nat.le_succ T) I
  refine ⟨h1, h2, h3, h4, h5, h6, fun x hx => ?_, h8⟩
  by_cases q : x = j
  · subst q
    obtain ⟨y, hy, e⟩ := I.2.2.2.2.2.2.1 x hx
    exact ⟨y + 1, by omega, by rw [pk_us, e, nI_add]⟩
  · rw [pk_un q]; exact h7 x hx
theorem rn_cpy_lo {i a : Nat} (h : a < k) (hi : i < 60) : va_cpy fh fb 0 (k * 60) n (a * 60 + i) = fb (a * 60 + i) := pk_cpy_out (Or.inl (by omega))
theorem rn_cpy_hi {i : Nat} (hi : i < n) : va_cpy fh fb 0 (k * 60) n (k * 60 + i) = fh i := by
  rw [pk_cpy_in (by omega) (by omega)]
  congr 1
  omega
theorem rn_I_new (hn : ¬ n = 0) (hk : k < 200) (hf : rn_ff (rn_mt fh n fb fl) k 0 = -1) (I : rn_I T fh n fb fl fg fr k) : rn_I T fh 0 (va_cpy fh fb 0 (k * 60) n) (upd fl k (nI n)) (upd fg k (nI 0)) (upd fr k (nI 0)) (k + 1) := by
  obtain ⟨h1, h2, h3, h4, h5, h6, h7, h8⟩ := I
  have hno : ∀ x, x < k → rn_mt fh n fb fl x = false := by
    rcases rn_ff_or (rn_mt fh n fb fl) k 0 with ⟨-, a2⟩ | ⟨x, -, b2, -, b4, -⟩
    · exact fun x hx => a2 x (Nat.zero_le x) (by omega)
    · exact absurd (b4.symm.trans hf) (rn_m1 (by omega))
  refine ⟨by omega, by omega, h3, fun i => ?_, fun j hj => ?_, fun j hj => ?_, fun j hj => ?_, fun a b y hab hb hy ea eb => ?_⟩
  · by_cases q : k * 60 ≤ i ∧ i < k * 60 + n
    · rw [pk_cpy_in q.1 q.2]; exact h3 _
    · rw [pk_cpy_out (by omega)]; exact h4 i
  · by_cases q : j = k
    · exact ⟨n, by omega, h1, by rw [q, pk_us]⟩
    · rw [pk_un q]; exact h5 j (by omega)
  · by_cases q : j = k
    · exact ⟨0, by omega, by rw [q, pk_us]⟩
    · rw [pk_un q]; exact h6 j (by omega)
  · by_cases q : j = k
    · exact ⟨0, by omega, by rw [q, pk_us]⟩
    · rw [pk_un q]; exact h7 j (by omega)
  · rw [pk_un (show a ≠ k by omega)] at ea
    by_cases q : b = k
    · rw [q, pk_us] at eb
      have ey : n = y := (nI_eq (by omega) (by omega)).mp eb
      have hp := of_decide_eq_false (hno a (by omega))
      have hx : ¬ ∀ i, i < n → fb (a * 60 + i) = fh i := fun z => hp ⟨by rw [ea, ey], z⟩
      obtain ⟨i, hi⟩ := Classical.not_forall.mp hx
      obtain ⟨hi1, hi2⟩ := Classical.not_imp.mp hi
      refine ⟨i, by omega, ?_⟩
      rw [rn_cpy_lo (by omega) (by omega), q, rn_cpy_hi hi1]
      exact hi2
    · rw [pk_un q] at eb
      obtain ⟨i, hi, hne⟩ := h8 a b y hab (by omega) hy ea eb
      exact ⟨i, hi, by rw [rn_cpy_lo (by omega) (by omega), rn_cpy_lo (by omega) (by omega)]; exact hne⟩
theorem rn_pu_b (v : Int64) : ∀ (f n : Nat) (fh : Nat → Int32), (∀ i, (fh i).toInt8.toInt32 = fh i) → ∀ i, (rn_pu v f n fh i).toInt8.toInt32 = rn_pu v f n fh i
  | 0, _, _, h => h
  | f + 1, n, fh, h => rn_pu_b v f (n + 1) (upd fh n (rn_by v f)) (fun i => by
    by_cases q : i = n
    · rw [q, pk_us]; exact rn_by_b v f
    · rw [pk_un q]; exact h i)
theorem rn_J_pt {v : Int64} {c : Int32} (I : rn_I T fh n fb fl fg fr k) : rn_J (T + 1) (rn_pt v c fh n fb fl fg fr k).2 := by
  have I1 := rn_I_mono (Nat.le_succ T) I
  by_cases h : c < nI 1 ∨ nI 8 < c ∨ nI (60 - n) < c
  · rw [rn_pt_f h]; exact I1
  · obtain ⟨j, h1, h8, h2, rfl⟩ := rn_c (c := c) (n := n) (fun q => h (Or.inl q)) (fun q => h (Or.inr (Or.inl q))) (Int32.not_lt.mp (fun q => h (Or.inr (Or.inr q))))
    rw [rn_pt_t h1 h8 h2]
    exact rn_I_n (n' := n + j) (by have := I.1; omega) (rn_I_h (rn_pu_b v j n fh I.2.2.1) I1)
theorem rn_J_gv (I : rn_I T fh n fb fl fg fr k) : rn_J (T + 1) (rn_gv fh n fb fl fg fr k).2 := by
  have I1 := rn_I_mono (Nat.le_succ T) I
  have hk := I.2.1
  by_cases h : n = 0
  · rw [rn_gv_0 h]; exact I1
  · rw [rn_gv_p h]
    rcases rn_tk_c (fh := fh) (n := n) (fb := fb) (fl := fl) (fg := fg) (fr := fr) hk with ⟨j, hj, e1, e2⟩ | ⟨e1, hlt, e2⟩ | ⟨e1, hlt, e2⟩
    · rw [e2, rn_gs_j (by omega)]
      exact rn_I_give hj (rn_I_n (n' := 0) (by omega) I)
    · rw [e2, rn_gs_j (by omega)]
      exact rn_I_give (Nat.lt_succ_self k) (rn_I_new h hlt e1 I)
    · rw [e2, rn_gs_n]
      exact rn_I_n (n' := 0) (by omega) I1
theorem rn_J_rf (I : rn_I T fh n fb fl fg fr k) : rn_J (T + 1) (rn_rf fh n fb fl fg fr k).2 := by
  have I1 := rn_I_mono (Nat.le_succ T) I
  have hk := I.2.1
  by_cases h : n = 0
  · rw [rn_rf_0 h]; exact I1
  · rw [rn_rf_p h]
    rcases rn_tk_c (fh := fh) (n := n) (fb := fb) (fl := fl) (fg := fg) (fr := fr) hk with ⟨j, hj, e1, e2⟩ | ⟨e1, hlt, e2⟩ | ⟨e1, hlt, e2⟩
    · rw [e2, rn_rs_j (by omega)]
      exact rn_I_refer hj (rn_I_n (n' := 0) (by omega) I)
    · rw [e2, rn_rs_j (by omega)]
      exact rn_I_refer (Nat.lt_succ_self k) (rn_I_new h hlt e1 I)
    · rw [e2, rn_rs_n]
      exact rn_I_n (n' := 0) (by omega) I1
end IV
theorem rn_I_0 : rn_I 0 (fun _ => 0) 0 (fun _ => 0) (fun _ => 0) (fun _ => 0) (fun _ => 0) 0 := ⟨by omega, by omega, fun _ => show (0 : Int32).toInt8.toInt32 = 0 by decide, fun _ => show (0 : Int32).toInt8.toInt32 = 0 by decide, fun j hj => absurd hj (by omega), fun j hj => absurd hj (by omega), fun j hj => absurd hj (by omega), fun a b y h1 h2 => absurd h2 (by omega)⟩
theorem rn_exit {L i : Nat} (hL : L ≤ 2048) (hi : i ≤ 4000) : nI L - nI 4 < nI i ↔ L < i + 4 := by
  rw [Int32.lt_iff_toInt_lt, pk_sub_toInt (by omega) (by omega), nI_toInt (by omega)]
  omega
end
section
/-! THE CLAIM OUT OF ONE WALK OF THE LAW'S BODY. Your part is whole_start (and what it stands on); all else here is the same for every law, but numbers. -/
def R_law : String := "ReferredNamesLaw"
def lw_P (b : Addr) (xs : List Int32) (args : Array Value) (s : State) : Prop := args = #[.ref b] ∧ s.IntsAt b xs ∧ xs.length ≤ 2048 ∧ (Jvm.Cond.and given_1 narrow_1).before args s = true
def lw_Q (_ : Array Value) (s : State) (o : Outcome) (t : State) : Prop := o = .returned (some (.int 1)) ∧ Framed s o t [] 12 25334
def lw_Z (below : List Frame) (a : Array Value) (s : State) : State → Prop := fun t => ∃ o, t.status = .running ∧ Ended t below o ∧ lw_Q a s o t
/-- the law's own end, with 1 on the stack, nothing written that was there before, its room as the claim has it -/
theorem lw_ret {p : Program} {l : Launch} {e : Env} {s : State} {m : MethodId} {below : List Frame} {meth : Method} {c : Code} {b : Nat} (hx : p.tables.exec = Jvm.exec) (hb : c.code = code) (hr : meth.sig.returnType = ret) (hlocks : meth.locks = false) {pc : Nat} {H : Heap} {ls : Array Slot} (hdg : decode code pc = .ok (.ireturn, 1)) : W p l e room_1 s m #[Value.ref b] below meth c H [] 12 25334 (lw_Z below #[Value.ref b] s) (F0 m pc ls [.int 1]) := by
  intro T hT X
  obtain ⟨fs, hret, hrun, hended, hW, hframe⟩ := X.leave (v := some (.int 1)) (hlocks := hlocks) (fun h => by rw [hr] at h; cases h)
  have hmeth' : T.vm.method? m = some meth := X.method'
  refine ⟨T.setFrames fs, ?_, .returned (some (.int 1)), hrun, hended, rfl, ⟨_, rfl⟩, hW, hframe⟩
  jvm_step X.here [X.here.top, hx, hb, hdg, hmeth', hr, ret, narrow_b1]
  (try refine ⟨rfl, ?_⟩); (try refine ⟨rfl, ?_⟩)
  first | (intro acts; rw [hret _ acts rfl rfl rfl]) | rw [hret _ _ rfl rfl rfl]
  exact Steps.refl _
/-- what holds at the law's entry: the machine, the code, the tables' words (any of lw_tbl by 'hts w (by decide +kernel)'), the script of L ints xs at the cell b, what the Statement gives of the start (any of its parts by flat_of_before) -/
def lw_At (p : Program) (s : State) (m : MethodId) (meth : Method) (c : Code) (b L : Nat) (xs : Nat → Int32) : Prop :=
  p.tables.exec = Jvm.exec ∧ c.code = code ∧ meth.sig.returnType = ret ∧ c.maxLocals = 4 ∧ s.vm.findClass R_law = some m.cls ∧ (∀ w ∈ lw_tbl, w.before #[Value.ref b] s = true) ∧ va_X b L xs s s.heap ∧ b < s.heap.size ∧ meth.locks = false ∧ (Jvm.Cond.and given_1 narrow_1).before #[Value.ref b] s = true
section SL
variable {p : Program} {l : Launch} {e : Env} {R : Room} {s : State} {m : MethodId} {args : Array Value} {below : List Frame} {meth : Method} {c : Code} {H : Heap} {locs : List Loc} {cells slots : Nat} {Q : State → Prop} {cc : ByteArray} {pc : Nat} {ls : Array Slot} {rest : List Value} {A : Nat → Prop} {H0 : Heap}
theorem rb_sld (hexec : p.tables.exec = Jvm.exec) (hb : c.code = cc) {b L : Nat} {xs : Nat → Int32} (hX : va_X b L xs s H0) (hbl : b < H0.size) (hbA : ¬ A b) (hS : va_S A H0 H locs) {i : Nat} (hi : i < L) (hL : L < 2 ^ 31) (hdg : decode cc pc = .ok (.iaload, 1))
    (kk : W p l e R s m args below meth c H locs cells slots Q (F0 m (pc + 1) ls (.int (xs i) :: rest))) : W p l e R s m args below meth c H locs cells slots Q (F0 m pc ls (.int (nI i) :: .ref b :: rest)) :=
  va_sld hexec hb hX hbl hbA hS (vp_in_nI hi hL) hdg (by rw [nI_clamp (Nat.lt_trans hi hL)]; exact kk)
end SL
set_option maxHeartbeats 8000000 in
set_option maxRecDepth 100000 in
/-- the law's loop: at its head the two hold the same state u -/
theorem law_loop {p : Program} {l : Launch} {e : Env} {s : State} {m : MethodId} {below : List Frame} {meth : Method} {c : Code} {D : va_G} {aX aM : Nat} {qX qM : Nat → Nat} {cX cM : Nat → ClassId} {b L : Nat} {xs : Nat → Int32} {A : Nat → Prop} (hL : L ≤ 2048) (C0 : lw_At p s m meth c b L xs) (hK : va_K D vwCl (tX cX ++ tM cM) s) (hA : ∀ q : Nat, s.heap.size ≤ q → A q) (hAf : ∀ q : Nat, A q → s.heap.size ≤ q) :
    ∀ (f i : Nat) (u : rn_S) (H : Heap) (locs : List Loc) (ls : Array Slot), L < i + 4 * f + 4 → i ≤ 2048 → rn_J i u → va_P D vwCl (wS aX qX cX u ++ wN aM qM cM u) H → va_D A (wS aX qX cX u ++ wN aM qM cM u) → va_S A s.heap H locs → lv_has ls 4 [(0, .ref b), (1, .ref aX), (2, .ref aM), (3, .int (nI i))] → W p l e room_1 s m #[Value.ref b] below meth c H locs 12 25334 (lw_Z below #[Value.ref b] s) (F0 m 18 ls []) := by
  obtain ⟨hx, hb, hr, hml, hown, hts, hX, hbl, hlocks, hgv⟩ := C0
  have hown : s.vm.findClass RL = some m.cls := hown
  have hts := fun w h => hts w (wsL_law_in w h)
  have hbA : ¬ A b := fun h => absurd (hAf b h) (by omega)
  have hKX : va_K D vwCl (tX cX) s := hK.sub [0, 1, 2, 3, 4] rfl
  have hKM : va_K D vwCl (tM cM) s := hK.sub [5, 6, 7, 8, 9] rfl
  intro f
  induction f with
  | zero =>
    intro i u H locs ls hf hi hI hP hD hS hl
    refine lv_iload_n hx hb dL_law_18 rfl (lv_at hl 3 rfl) ?_
    refine lv_aload_n hx hb dL_law_19 rfl (lv_at hl 0 rfl) ?_
    refine va_slen hx hb hX hbl hbA hS dL_law_20 ?_
    refine lv_iconst (v := nI 4) hx hb dL_law_21 (by decide) ?_
    refine lv_isub hx hb dL_law_22 ?_
    refine lv_icmp_gt (tgt := 290) hx hb dL_law_23 (by decide) (fun c0 => ?_) (fun c0 => ?_)
    · have c0 := (rn_exit hL (by omega)).mp c0
      have hEnd := c0
      refine lv_iconst (v := 1) hx hb dL_law_290 (by decide) ?_
      refine va_forget (fun q hq => hAf _ (hS.2.2 q hq)) ?_
      exact lw_ret hx hb hr hlocks dL_law_291
    · exact absurd ((rn_exit hL (by omega)).mpr (by omega)) c0
  | succ f ih =>
    intro i u H locs ls hf hi hI hP hD hS hl
    refine lv_iload_n hx hb dL_law_18 rfl (lv_at hl 3 rfl) ?_
    refine lv_aload_n hx hb dL_law_19 rfl (lv_at hl 0 rfl) ?_
    refine va_slen hx hb hX hbl hbA hS dL_law_20 ?_
    refine lv_iconst (v := nI 4) hx hb dL_law_21 (by decide) ?_
    refine lv_isub hx hb dL_law_22 ?_
    refine lv_icmp_gt (tgt := 290) hx hb dL_law_23 (by decide) (fun c0 => ?_) (fun c0 => ?_)
    · have c0 := (rn_exit hL (by omega)).mp c0
      have hEnd := c0
      refine lv_iconst (v := 1) hx hb dL_law_290 (by decide) ?_
      refine va_forget (fun q hq => hAf _ (hS.2.2 q hq)) ?_
      exact lw_ret hx hb hr hlocks dL_law_291
    · have c0 : i + 4 ≤ L := by
        rcases Nat.lt_or_ge L (i + 4) with q9 | q9
        · exact absurd ((rn_exit hL (by omega)).mpr q9) c0
        · exact q9
      refine lv_aload_n hx hb dL_law_26 rfl (lv_at hl 0 rfl) ?_
      refine lv_iload_n hx hb dL_law_27 rfl (lv_at hl 3 rfl) ?_
      refine rb_sld hx hb hX hbl hbA hS (i := i) (by omega) (by omega) dL_law_28 ?_
      refine lv_bipush (v := nI 7) hx hb dL_law_29 (by decide) ?_
      refine lv_iand hx hb dL_law_31 ?_
      obtain ⟨y, hy, ey⟩ := pk_andE (xs i) (m := nI 7) 3 (by decide)
      refine rb_top ey ?_
      rcases (show y = 0 ∨ y = 1 ∨ y = 2 ∨ y = 3 ∨ y = 4 ∨ y = 5 ∨ y = 6 ∨ y = 7 by omega) with rfl | rfl | rfl | rfl | rfl | rfl | rfl | rfl
      · refine lv_tableIn (off := 48) (tgt := 80) hx hb dL_law_32 (by decide) (by decide) (by decide) (by decide) ?_
        refine lv_aload_n hx hb dL_law_80 rfl (lv_at hl 1 rfl) ?_
        refine lv_aload_n hx hb dL_law_81 rfl (lv_at hl 0 rfl) ?_
        refine lv_iload_n hx hb dL_law_82 rfl (lv_at hl 3 rfl) ?_
        refine lv_iconst (v := nI 1) hx hb dL_law_83 (by decide) ?_
        refine lv_iadd hx hb dL_law_84 ?_
        refine rb_top (y := nI (i + 1)) (nI_add i 1) ?_
        refine rb_sld hx hb hX hbl hbA hS (i := i + 1) (by omega) (by omega) dL_law_85 ?_
        refine lv_i2l (v := (xs (i + 1)).toInt64) hx hb dL_law_86 rfl ?_
        refine lv_bipush (v := nI 32) hx hb dL_law_87 (by decide) ?_
        refine lv_lshl (v := ((xs (i + 1)).toInt64) <<< ((nI 32).toInt64 &&& 63)) hx hb dL_law_89 rfl ?_
        refine lv_aload_n hx hb dL_law_90 rfl (lv_at hl 0 rfl) ?_
        refine lv_iload_n hx hb dL_law_91 rfl (lv_at hl 3 rfl) ?_
        refine lv_iconst (v := nI 2) hx hb dL_law_92 (by decide) ?_
        refine lv_iadd hx hb dL_law_93 ?_
        refine rb_top (y := nI (i + 2)) (nI_add i 2) ?_
        refine rb_sld hx hb hX hbl hbA hS (i := i + 2) (by omega) (by omega) dL_law_94 ?_
        refine lv_i2l (v := (xs (i + 2)).toInt64) hx hb dL_law_95 rfl ?_
        refine lv_ldc2 (v := 4294967295) hx hb hown (hts (.constantLong RL 13 (4294967295)) (by decide +kernel)) dL_law_96 ?_
        refine lv_land hx hb dL_law_99 ?_
        refine lv_lor hx hb dL_law_100 ?_
        refine lv_aload_n hx hb dL_law_101 rfl (lv_at hl 0 rfl) ?_
        refine lv_iload_n hx hb dL_law_102 rfl (lv_at hl 3 rfl) ?_
        refine lv_iconst (v := nI 3) hx hb dL_law_103 (by decide) ?_
        refine lv_iadd hx hb dL_law_104 ?_
        refine rb_top (y := nI (i + 3)) (nI_add i 3) ?_
        refine rb_sld hx hb hX hbl hbA hS (i := i + 3) (by omega) (by omega) dL_law_105 ?_
        refine wr_call (ci := 0) (b := aX) (As := [.long ((((xs (i + 1)).toInt64) <<< ((nI 32).toInt64 &&& 63)) ||| (((xs (i + 2)).toInt64) &&& 4294967295)), .int (xs (i + 3))]) (rest := []) (wr := wN aM qM cM u) ⟨hx, hb, hml, hown, hts⟩ (kX0_put l D aX qX cX u.1 u.2.1 u.2.2.1 u.2.2.2.1 u.2.2.2.2.1 u.2.2.2.2.2.1 u.2.2.2.2.2.2 hI.1 hI.2.1 ((((xs (i + 1)).toInt64) <<< ((nI 32).toInt64 &&& 63)) ||| (((xs (i + 2)).toInt64) &&& 4294967295)) (xs (i + 3)) H.size) (cwV 2 hts gL_law_X0_put rfl rfl rfl (by decide +kernel) ⟨Nat.le_of_ble_eq_true rfl, Nat.le_of_ble_eq_true rfl⟩) hKX hP hD hS hA [0, 1, 2, 3, 4, 5] [6, 7, 8, 9, 10, 11] rfl rfl (by decide) (by decide) (by decide) rfl rfl rfl rfl hl.1 rfl (Nat.le_of_ble_eq_true rfl) dL_law_106 ⟨Nat.le_of_ble_eq_true rfl, Nat.le_of_ble_eq_true rfl⟩ (fun H locs hP hD hS => ?_)
        have hP : va_P D vwCl (wN aM qM cM u ++ wS aX qX cX ((rn_pt ((((xs (i + 1)).toInt64) <<< ((nI 32).toInt64 &&& 63)) ||| (((xs (i + 2)).toInt64) &&& 4294967295)) (xs (i + 3)) u.1 u.2.1 u.2.2.1 u.2.2.2.1 u.2.2.2.2.1 u.2.2.2.2.2.1 u.2.2.2.2.2.2).2)) H := hP
        have hD : va_D A (wN aM qM cM u ++ wS aX qX cX ((rn_pt ((((xs (i + 1)).toInt64) <<< ((nI 32).toInt64 &&& 63)) ||| (((xs (i + 2)).toInt64) &&& 4294967295)) (xs (i + 3)) u.1 u.2.1 u.2.2.1 u.2.2.2.1 u.2.2.2.2.1 u.2.2.2.2.2.1 u.2.2.2.2.2.2).2)) := hD
        refine lv_aload_n hx hb dL_law_109 rfl (lv_at hl 2 rfl) ?_
        refine lv_aload_n hx hb dL_law_110 rfl (lv_at hl 0 rfl) ?_
        refine lv_iload_n hx hb dL_law_111 rfl (lv_at hl 3 rfl) ?_
        refine lv_iconst (v := nI 1) hx hb dL_law_112 (by decide) ?_
        refine lv_iadd hx hb dL_law_113 ?_
        refine rb_top (y := nI (i + 1)) (nI_add i 1) ?_
        refine rb_sld hx hb hX hbl hbA hS (i := i + 1) (by omega) (by omega) dL_law_114 ?_
        refine lv_i2l (v := (xs (i + 1)).toInt64) hx hb dL_law_115 rfl ?_
        refine lv_bipush (v := nI 32) hx hb dL_law_116 (by decide) ?_
        refine lv_lshl (v := ((xs (i + 1)).toInt64) <<< ((nI 32).toInt64 &&& 63)) hx hb dL_law_118 rfl ?_
        refine lv_aload_n hx hb dL_law_119 rfl (lv_at hl 0 rfl) ?_
        refine lv_iload_n hx hb dL_law_120 rfl (lv_at hl 3 rfl) ?_
        refine lv_iconst (v := nI 2) hx hb dL_law_121 (by decide) ?_
        refine lv_iadd hx hb dL_law_122 ?_
        refine rb_top (y := nI (i + 2)) (nI_add i 2) ?_
        refine rb_sld hx hb hX hbl hbA hS (i := i + 2) (by omega) (by omega) dL_law_123 ?_
        refine lv_i2l (v := (xs (i + 2)).toInt64) hx hb dL_law_124 rfl ?_
        refine lv_ldc2 (v := 4294967295) hx hb hown (hts (.constantLong RL 13 (4294967295)) (by decide +kernel)) dL_law_125 ?_
        refine lv_land hx hb dL_law_128 ?_
        refine lv_lor hx hb dL_law_129 ?_
        refine lv_aload_n hx hb dL_law_130 rfl (lv_at hl 0 rfl) ?_
        refine lv_iload_n hx hb dL_law_131 rfl (lv_at hl 3 rfl) ?_
        refine lv_iconst (v := nI 3) hx hb dL_law_132 (by decide) ?_
        refine lv_iadd hx hb dL_law_133 ?_
        refine rb_top (y := nI (i + 3)) (nI_add i 3) ?_
        refine rb_sld hx hb hX hbl hbA hS (i := i + 3) (by omega) (by omega) dL_law_134 ?_
        refine wr_call (ci := 1) (b := aM) (As := [.long ((((xs (i + 1)).toInt64) <<< ((nI 32).toInt64 &&& 63)) ||| (((xs (i + 2)).toInt64) &&& 4294967295)), .int (xs (i + 3))]) (rest := [.int ((rn_pt ((((xs (i + 1)).toInt64) <<< ((nI 32).toInt64 &&& 63)) ||| (((xs (i + 2)).toInt64) &&& 4294967295)) (xs (i + 3)) u.1 u.2.1 u.2.2.1 u.2.2.2.1 u.2.2.2.2.1 u.2.2.2.2.2.1 u.2.2.2.2.2.2).1)]) (wr := wS aX qX cX ((rn_pt ((((xs (i + 1)).toInt64) <<< ((nI 32).toInt64 &&& 63)) ||| (((xs (i + 2)).toInt64) &&& 4294967295)) (xs (i + 3)) u.1 u.2.1 u.2.2.1 u.2.2.2.1 u.2.2.2.2.1 u.2.2.2.2.2.1 u.2.2.2.2.2.2).2)) ⟨hx, hb, hml, hown, hts⟩ (kX1_put l D aM qM cM u.1 u.2.1 u.2.2.1 u.2.2.2.1 u.2.2.2.2.1 u.2.2.2.2.2.1 u.2.2.2.2.2.2 hI.1 hI.2.1 ((((xs (i + 1)).toInt64) <<< ((nI 32).toInt64 &&& 63)) ||| (((xs (i + 2)).toInt64) &&& 4294967295)) (xs (i + 3)) H.size) (cwV 2 hts gL_law_X1_put rfl rfl rfl (by decide +kernel) ⟨Nat.le_of_ble_eq_true rfl, Nat.le_of_ble_eq_true rfl⟩) hKM hP hD hS hA [0, 1, 2, 3, 4, 5] [6, 7, 8, 9, 10, 11] rfl rfl (by decide) (by decide) (by decide) rfl rfl rfl rfl hl.1 rfl (Nat.le_of_ble_eq_true rfl) dL_law_135 ⟨Nat.le_of_ble_eq_true rfl, Nat.le_of_ble_eq_true rfl⟩ (fun H locs hP hD hS => ?_)
        have hP : va_P D vwCl (wS aX qX cX ((rn_pt ((((xs (i + 1)).toInt64) <<< ((nI 32).toInt64 &&& 63)) ||| (((xs (i + 2)).toInt64) &&& 4294967295)) (xs (i + 3)) u.1 u.2.1 u.2.2.1 u.2.2.2.1 u.2.2.2.2.1 u.2.2.2.2.2.1 u.2.2.2.2.2.2).2) ++ wN aM qM cM ((rn_pt ((((xs (i + 1)).toInt64) <<< ((nI 32).toInt64 &&& 63)) ||| (((xs (i + 2)).toInt64) &&& 4294967295)) (xs (i + 3)) u.1 u.2.1 u.2.2.1 u.2.2.2.1 u.2.2.2.2.1 u.2.2.2.2.2.1 u.2.2.2.2.2.2).2)) H := hP
        have hD : va_D A (wS aX qX cX ((rn_pt ((((xs (i + 1)).toInt64) <<< ((nI 32).toInt64 &&& 63)) ||| (((xs (i + 2)).toInt64) &&& 4294967295)) (xs (i + 3)) u.1 u.2.1 u.2.2.1 u.2.2.2.1 u.2.2.2.2.1 u.2.2.2.2.2.1 u.2.2.2.2.2.2).2) ++ wN aM qM cM ((rn_pt ((((xs (i + 1)).toInt64) <<< ((nI 32).toInt64 &&& 63)) ||| (((xs (i + 2)).toInt64) &&& 4294967295)) (xs (i + 3)) u.1 u.2.1 u.2.2.1 u.2.2.2.1 u.2.2.2.2.1 u.2.2.2.2.2.1 u.2.2.2.2.2.2).2)) := hD
        refine lv_icmp_eq (tgt := 284) hx hb dL_law_138 (by decide) (fun c1 => ?_) (fun c1 => ?_)
        · refine lv_iinc (v := nI (i + 4)) (lv' := [(3, .int (nI (i + 4))), (0, .ref b), (1, .ref aX), (2, .ref aM)]) hx hb dL_law_284 hl (k := 3) rfl (nI_add i 4) (by decide) rfl (fun ls hl => ?_)
          refine lv_goto (tgt := 18) hx hb dL_law_287 (by decide) ?_
          exact ih (i + 4) ((rn_pt ((((xs (i + 1)).toInt64) <<< ((nI 32).toInt64 &&& 63)) ||| (((xs (i + 2)).toInt64) &&& 4294967295)) (xs (i + 3)) u.1 u.2.1 u.2.2.1 u.2.2.2.1 u.2.2.2.2.1 u.2.2.2.2.2.1 u.2.2.2.2.2.2).2) H locs ls (by omega) (by omega) (rn_I_mono (by omega) (rn_J_pt hI)) hP hD hS (lv_sub hl [1, 2, 3, 0] rfl)
        · exact absurd rfl c1
      · refine lv_tableIn (off := 111) (tgt := 143) hx hb dL_law_32 (by decide) (by decide) (by decide) (by decide) ?_
        refine lv_aload_n hx hb dL_law_143 rfl (lv_at hl 1 rfl) ?_
        refine wr_call (ci := 0) (b := aX) (As := []) (rest := []) (wr := wN aM qM cM u) ⟨hx, hb, hml, hown, hts⟩ (kX0_give l D aX qX cX u.1 u.2.1 u.2.2.1 u.2.2.2.1 u.2.2.2.2.1 u.2.2.2.2.2.1 u.2.2.2.2.2.2 hI.1 hI.2.1 H.size hI.2.2.1) (cwV 0 hts gL_law_X0_give rfl rfl rfl (by decide +kernel) ⟨Nat.le_of_ble_eq_true rfl, Nat.le_of_ble_eq_true rfl⟩) hKX hP hD hS hA [0, 1, 2, 3, 4, 5] [6, 7, 8, 9, 10, 11] rfl rfl (by decide) (by decide) (by decide) rfl rfl rfl rfl hl.1 rfl (Nat.le_of_ble_eq_true rfl) dL_law_144 ⟨Nat.le_of_ble_eq_true rfl, Nat.le_of_ble_eq_true rfl⟩ (fun H locs hP hD hS => ?_)
        have hP : va_P D vwCl (wN aM qM cM u ++ wS aX qX cX ((rn_gv u.1 u.2.1 u.2.2.1 u.2.2.2.1 u.2.2.2.2.1 u.2.2.2.2.2.1 u.2.2.2.2.2.2).2)) H := hP
        have hD : va_D A (wN aM qM cM u ++ wS aX qX cX ((rn_gv u.1 u.2.1 u.2.2.1 u.2.2.2.1 u.2.2.2.2.1 u.2.2.2.2.2.1 u.2.2.2.2.2.2).2)) := hD
        refine lv_aload_n hx hb dL_law_147 rfl (lv_at hl 2 rfl) ?_
        refine wr_call (ci := 1) (b := aM) (As := []) (rest := [.int ((rn_gv u.1 u.2.1 u.2.2.1 u.2.2.2.1 u.2.2.2.2.1 u.2.2.2.2.2.1 u.2.2.2.2.2.2).1)]) (wr := wS aX qX cX ((rn_gv u.1 u.2.1 u.2.2.1 u.2.2.2.1 u.2.2.2.2.1 u.2.2.2.2.2.1 u.2.2.2.2.2.2).2)) ⟨hx, hb, hml, hown, hts⟩ (kX1_give l D aM qM cM u.1 u.2.1 u.2.2.1 u.2.2.2.1 u.2.2.2.2.1 u.2.2.2.2.2.1 u.2.2.2.2.2.2 hI.1 hI.2.1 H.size hI.2.2.1 hI.2.2.2.1 (rn_I_u hI)) (cwV 0 hts gL_law_X1_give rfl rfl rfl (by decide +kernel) ⟨Nat.le_of_ble_eq_true rfl, Nat.le_of_ble_eq_true rfl⟩) hKM hP hD hS hA [0, 1, 2, 3, 4, 5] [6, 7, 8, 9, 10, 11] rfl rfl (by decide) (by decide) (by decide) rfl rfl rfl rfl hl.1 rfl (Nat.le_of_ble_eq_true rfl) dL_law_148 ⟨Nat.le_of_ble_eq_true rfl, Nat.le_of_ble_eq_true rfl⟩ (fun H locs hP hD hS => ?_)
        have hP : va_P D vwCl (wS aX qX cX ((rn_gv u.1 u.2.1 u.2.2.1 u.2.2.2.1 u.2.2.2.2.1 u.2.2.2.2.2.1 u.2.2.2.2.2.2).2) ++ wN aM qM cM ((rn_gv u.1 u.2.1 u.2.2.1 u.2.2.2.1 u.2.2.2.2.1 u.2.2.2.2.2.1 u.2.2.2.2.2.2).2)) H := hP
        have hD : va_D A (wS aX qX cX ((rn_gv u.1 u.2.1 u.2.2.1 u.2.2.2.1 u.2.2.2.2.1 u.2.2.2.2.2.1 u.2.2.2.2.2.2).2) ++ wN aM qM cM ((rn_gv u.1 u.2.1 u.2.2.1 u.2.2.2.1 u.2.2.2.2.1 u.2.2.2.2.2.1 u.2.2.2.2.2.2).2)) := hD
        refine lv_icmp_eq (tgt := 284) hx hb dL_law_151 (by decide) (fun c2 => ?_) (fun c2 => ?_)
        · refine lv_iinc (v := nI (i + 4)) (lv' := [(3, .int (nI (i + 4))), (0, .ref b), (1, .ref aX), (2, .ref aM)]) hx hb dL_law_284 hl (k := 3) rfl (nI_add i 4) (by decide) rfl (fun ls hl => ?_)
          refine lv_goto (tgt := 18) hx hb dL_law_287 (by decide) ?_
          exact ih (i + 4) ((rn_gv u.1 u.2.1 u.2.2.1 u.2.2.2.1 u.2.2.2.2.1 u.2.2.2.2.2.1 u.2.2.2.2.2.2).2) H locs ls (by omega) (by omega) (rn_I_mono (by omega) (rn_J_gv hI)) hP hD hS (lv_sub hl [1, 2, 3, 0] rfl)
        · exact absurd rfl c2
      · refine lv_tableIn (off := 124) (tgt := 156) hx hb dL_law_32 (by decide) (by decide) (by decide) (by decide) ?_
        refine lv_aload_n hx hb dL_law_156 rfl (lv_at hl 1 rfl) ?_
        refine wr_call (ci := 0) (b := aX) (As := []) (rest := []) (wr := wN aM qM cM u) ⟨hx, hb, hml, hown, hts⟩ (kX0_refer l D aX qX cX u.1 u.2.1 u.2.2.1 u.2.2.2.1 u.2.2.2.2.1 u.2.2.2.2.2.1 u.2.2.2.2.2.2 hI.1 hI.2.1 H.size hI.2.2.1) (cwV 0 hts gL_law_X0_refer rfl rfl rfl (by decide +kernel) ⟨Nat.le_of_ble_eq_true rfl, Nat.le_of_ble_eq_true rfl⟩) hKX hP hD hS hA [0, 1, 2, 3, 4, 5] [6, 7, 8, 9, 10, 11] rfl rfl (by decide) (by decide) (by decide) rfl rfl rfl rfl hl.1 rfl (Nat.le_of_ble_eq_true rfl) dL_law_157 ⟨Nat.le_of_ble_eq_true rfl, Nat.le_of_ble_eq_true rfl⟩ (fun H locs hP hD hS => ?_)
        have hP : va_P D vwCl (wN aM qM cM u ++ wS aX qX cX ((rn_rf u.1 u.2.1 u.2.2.1 u.2.2.2.1 u.2.2.2.2.1 u.2.2.2.2.2.1 u.2.2.2.2.2.2).2)) H := hP
        have hD : va_D A (wN aM qM cM u ++ wS aX qX cX ((rn_rf u.1 u.2.1 u.2.2.1 u.2.2.2.1 u.2.2.2.2.1 u.2.2.2.2.2.1 u.2.2.2.2.2.2).2)) := hD
        refine lv_aload_n hx hb dL_law_160 rfl (lv_at hl 2 rfl) ?_
        refine wr_call (ci := 1) (b := aM) (As := []) (rest := [.int ((rn_rf u.1 u.2.1 u.2.2.1 u.2.2.2.1 u.2.2.2.2.1 u.2.2.2.2.2.1 u.2.2.2.2.2.2).1)]) (wr := wS aX qX cX ((rn_rf u.1 u.2.1 u.2.2.1 u.2.2.2.1 u.2.2.2.2.1 u.2.2.2.2.2.1 u.2.2.2.2.2.2).2)) ⟨hx, hb, hml, hown, hts⟩ (kX1_refer l D aM qM cM u.1 u.2.1 u.2.2.1 u.2.2.2.1 u.2.2.2.2.1 u.2.2.2.2.2.1 u.2.2.2.2.2.2 hI.1 hI.2.1 H.size hI.2.2.1 hI.2.2.2.1 (rn_I_u hI)) (cwV 0 hts gL_law_X1_refer rfl rfl rfl (by decide +kernel) ⟨Nat.le_of_ble_eq_true rfl, Nat.le_of_ble_eq_true rfl⟩) hKM hP hD hS hA [0, 1, 2, 3, 4, 5] [6, 7, 8, 9, 10, 11] rfl rfl (by decide) (by decide) (by decide) rfl rfl rfl rfl hl.1 rfl (Nat.le_of_ble_eq_true rfl) dL_law_161 ⟨Nat.le_of_ble_eq_true rfl, Nat.le_of_ble_eq_true rfl⟩ (fun H locs hP hD hS => ?_)
        have hP : va_P D vwCl (wS aX qX cX ((rn_rf u.1 u.2.1 u.2.2.1 u.2.2.2.1 u.2.2.2.2.1 u.2.2.2.2.2.1 u.2.2.2.2.2.2).2) ++ wN aM qM cM ((rn_rf u.1 u.2.1 u.2.2.1 u.2.2.2.1 u.2.2.2.2.1 u.2.2.2.2.2.1 u.2.2.2.2.2.2).2)) H := hP
        have hD : va_D A (wS aX qX cX ((rn_rf u.1 u.2.1 u.2.2.1 u.2.2.2.1 u.2.2.2.2.1 u.2.2.2.2.2.1 u.2.2.2.2.2.2).2) ++ wN aM qM cM ((rn_rf u.1 u.2.1 u.2.2.1 u.2.2.2.1 u.2.2.2.2.1 u.2.2.2.2.2.1 u.2.2.2.2.2.2).2)) := hD
        refine lv_icmp_eq (tgt := 284) hx hb dL_law_164 (by decide) (fun c3 => ?_) (fun c3 => ?_)
        · refine lv_iinc (v := nI (i + 4)) (lv' := [(3, .int (nI (i + 4))), (0, .ref b), (1, .ref aX), (2, .ref aM)]) hx hb dL_law_284 hl (k := 3) rfl (nI_add i 4) (by decide) rfl (fun ls hl => ?_)
          refine lv_goto (tgt := 18) hx hb dL_law_287 (by decide) ?_
          exact ih (i + 4) ((rn_rf u.1 u.2.1 u.2.2.1 u.2.2.2.1 u.2.2.2.2.1 u.2.2.2.2.2.1 u.2.2.2.2.2.2).2) H locs ls (by omega) (by omega) (rn_I_mono (by omega) (rn_J_rf hI)) hP hD hS (lv_sub hl [1, 2, 3, 0] rfl)
        · exact absurd rfl c3
      · refine lv_tableIn (off := 137) (tgt := 169) hx hb dL_law_32 (by decide) (by decide) (by decide) (by decide) ?_
        refine lv_aload_n hx hb dL_law_169 rfl (lv_at hl 1 rfl) ?_
        refine rd_call (ci := 0) (b := aX) (As := []) (rest := []) ⟨hx, hb, hml, hown, hts⟩ (kX0_find l D aX qX cX u.1 u.2.1 u.2.2.1 u.2.2.2.1 u.2.2.2.2.1 u.2.2.2.2.2.1 u.2.2.2.2.2.2 hI.1 hI.2.1) (cwV 0 hts gL_law_X0_find rfl rfl rfl (by decide +kernel) ⟨Nat.le_of_ble_eq_true rfl, Nat.le_of_ble_eq_true rfl⟩) hKX (rb_Psub hP [0, 1, 2, 3, 4, 5] rfl) rfl rfl rfl rfl hl.1 rfl (Nat.le_of_ble_eq_true rfl) dL_law_170 ⟨Nat.le_of_ble_eq_true rfl, Nat.le_of_ble_eq_true rfl⟩ ?_
        refine lv_aload_n hx hb dL_law_173 rfl (lv_at hl 2 rfl) ?_
        refine rd_call (ci := 1) (b := aM) (As := []) (rest := [.int (rn_ff (rn_mt u.1 u.2.1 u.2.2.1 u.2.2.2.1) u.2.2.2.2.2.2 0)]) ⟨hx, hb, hml, hown, hts⟩ (kX1_find l D aM qM cM u.1 u.2.1 u.2.2.1 u.2.2.2.1 u.2.2.2.2.1 u.2.2.2.2.2.1 u.2.2.2.2.2.2 hI.1 hI.2.1 hI.2.2.1 hI.2.2.2.1 (rn_I_u hI) hI.2.2.2.2.1) (cwV 0 hts gL_law_X1_find rfl rfl rfl (by decide +kernel) ⟨Nat.le_of_ble_eq_true rfl, Nat.le_of_ble_eq_true rfl⟩) hKM (rb_Psub hP [6, 7, 8, 9, 10, 11] rfl) rfl rfl rfl rfl hl.1 rfl (Nat.le_of_ble_eq_true rfl) dL_law_174 ⟨Nat.le_of_ble_eq_true rfl, Nat.le_of_ble_eq_true rfl⟩ ?_
        refine lv_icmp_eq (tgt := 284) hx hb dL_law_177 (by decide) (fun c4 => ?_) (fun c4 => ?_)
        · refine lv_iinc (v := nI (i + 4)) (lv' := [(3, .int (nI (i + 4))), (0, .ref b), (1, .ref aX), (2, .ref aM)]) hx hb dL_law_284 hl (k := 3) rfl (nI_add i 4) (by decide) rfl (fun ls hl => ?_)
          refine lv_goto (tgt := 18) hx hb dL_law_287 (by decide) ?_
          exact ih (i + 4) u H locs ls (by omega) (by omega) (rn_I_mono (by omega) hI) hP hD hS (lv_sub hl [1, 2, 3, 0] rfl)
        · exact absurd rfl c4
      · refine lv_tableIn (off := 150) (tgt := 182) hx hb dL_law_32 (by decide) (by decide) (by decide) (by decide) ?_
        refine lv_aload_n hx hb dL_law_182 rfl (lv_at hl 1 rfl) ?_
        refine lv_aload_n hx hb dL_law_183 rfl (lv_at hl 0 rfl) ?_
        refine lv_iload_n hx hb dL_law_184 rfl (lv_at hl 3 rfl) ?_
        refine lv_iconst (v := nI 1) hx hb dL_law_185 (by decide) ?_
        refine lv_iadd hx hb dL_law_186 ?_
        refine rb_top (y := nI (i + 1)) (nI_add i 1) ?_
        refine rb_sld hx hb hX hbl hbA hS (i := i + 1) (by omega) (by omega) dL_law_187 ?_
        refine lv_aload_n hx hb dL_law_188 rfl (lv_at hl 0 rfl) ?_
        refine lv_iload_n hx hb dL_law_189 rfl (lv_at hl 3 rfl) ?_
        refine lv_iconst (v := nI 2) hx hb dL_law_190 (by decide) ?_
        refine lv_iadd hx hb dL_law_191 ?_
        refine rb_top (y := nI (i + 2)) (nI_add i 2) ?_
        refine rb_sld hx hb hX hbl hbA hS (i := i + 2) (by omega) (by omega) dL_law_192 ?_
        refine rd_call (ci := 0) (b := aX) (As := [.int (xs (i + 1)), .int (xs (i + 2))]) (rest := []) ⟨hx, hb, hml, hown, hts⟩ (kX0_look l D aX qX cX u.1 u.2.1 u.2.2.1 u.2.2.2.1 u.2.2.2.2.1 u.2.2.2.2.2.1 u.2.2.2.2.2.2 hI.1 hI.2.1 (xs (i + 1)) (xs (i + 2))) (cwV 2 hts gL_law_X0_look rfl rfl rfl (by decide +kernel) ⟨Nat.le_of_ble_eq_true rfl, Nat.le_of_ble_eq_true rfl⟩) hKX (rb_Psub hP [0, 1, 2, 3, 4, 5] rfl) rfl rfl rfl rfl hl.1 rfl (Nat.le_of_ble_eq_true rfl) dL_law_193 ⟨Nat.le_of_ble_eq_true rfl, Nat.le_of_ble_eq_true rfl⟩ ?_
        refine lv_aload_n hx hb dL_law_196 rfl (lv_at hl 2 rfl) ?_
        refine lv_aload_n hx hb dL_law_197 rfl (lv_at hl 0 rfl) ?_
        refine lv_iload_n hx hb dL_law_198 rfl (lv_at hl 3 rfl) ?_
        refine lv_iconst (v := nI 1) hx hb dL_law_199 (by decide) ?_
        refine lv_iadd hx hb dL_law_200 ?_
        refine rb_top (y := nI (i + 1)) (nI_add i 1) ?_
        refine rb_sld hx hb hX hbl hbA hS (i := i + 1) (by omega) (by omega) dL_law_201 ?_
        refine lv_aload_n hx hb dL_law_202 rfl (lv_at hl 0 rfl) ?_
        refine lv_iload_n hx hb dL_law_203 rfl (lv_at hl 3 rfl) ?_
        refine lv_iconst (v := nI 2) hx hb dL_law_204 (by decide) ?_
        refine lv_iadd hx hb dL_law_205 ?_
        refine rb_top (y := nI (i + 2)) (nI_add i 2) ?_
        refine rb_sld hx hb hX hbl hbA hS (i := i + 2) (by omega) (by omega) dL_law_206 ?_
        refine rd_call (ci := 1) (b := aM) (As := [.int (xs (i + 1)), .int (xs (i + 2))]) (rest := [.int (rn_look u.2.2.2.1 u.2.2.2.2.1 u.2.2.2.2.2.1 u.2.2.2.2.2.2 (xs (i + 1)) (xs (i + 2)))]) ⟨hx, hb, hml, hown, hts⟩ (kX1_look l D aM qM cM u.1 u.2.1 u.2.2.1 u.2.2.2.1 u.2.2.2.2.1 u.2.2.2.2.2.1 u.2.2.2.2.2.2 hI.1 hI.2.1 (xs (i + 1)) (xs (i + 2)) (rn_I_r (by omega) hI)) (cwV 2 hts gL_law_X1_look rfl rfl rfl (by decide +kernel) ⟨Nat.le_of_ble_eq_true rfl, Nat.le_of_ble_eq_true rfl⟩) hKM (rb_Psub hP [6, 7, 8, 9, 10, 11] rfl) rfl rfl rfl rfl hl.1 rfl (Nat.le_of_ble_eq_true rfl) dL_law_207 ⟨Nat.le_of_ble_eq_true rfl, Nat.le_of_ble_eq_true rfl⟩ ?_
        refine lv_icmp_eq (tgt := 284) hx hb dL_law_210 (by decide) (fun c5 => ?_) (fun c5 => ?_)
        · refine lv_iinc (v := nI (i + 4)) (lv' := [(3, .int (nI (i + 4))), (0, .ref b), (1, .ref aX), (2, .ref aM)]) hx hb dL_law_284 hl (k := 3) rfl (nI_add i 4) (by decide) rfl (fun ls hl => ?_)
          refine lv_goto (tgt := 18) hx hb dL_law_287 (by decide) ?_
          exact ih (i + 4) u H locs ls (by omega) (by omega) (rn_I_mono (by omega) hI) hP hD hS (lv_sub hl [1, 2, 3, 0] rfl)
        · exact absurd rfl c5
      · refine lv_tableIn (off := 183) (tgt := 215) hx hb dL_law_32 (by decide) (by decide) (by decide) (by decide) ?_
        refine lv_aload_n hx hb dL_law_215 rfl (lv_at hl 1 rfl) ?_
        refine lv_aload_n hx hb dL_law_216 rfl (lv_at hl 0 rfl) ?_
        refine lv_iload_n hx hb dL_law_217 rfl (lv_at hl 3 rfl) ?_
        refine lv_iconst (v := nI 1) hx hb dL_law_218 (by decide) ?_
        refine lv_iadd hx hb dL_law_219 ?_
        refine rb_top (y := nI (i + 1)) (nI_add i 1) ?_
        refine rb_sld hx hb hX hbl hbA hS (i := i + 1) (by omega) (by omega) dL_law_220 ?_
        refine lv_aload_n hx hb dL_law_221 rfl (lv_at hl 0 rfl) ?_
        refine lv_iload_n hx hb dL_law_222 rfl (lv_at hl 3 rfl) ?_
        refine lv_iconst (v := nI 2) hx hb dL_law_223 (by decide) ?_
        refine lv_iadd hx hb dL_law_224 ?_
        refine rb_top (y := nI (i + 2)) (nI_add i 2) ?_
        refine rb_sld hx hb hX hbl hbA hS (i := i + 2) (by omega) (by omega) dL_law_225 ?_
        refine rd_call (ci := 0) (b := aX) (As := [.int (xs (i + 1)), .int (xs (i + 2))]) (rest := []) ⟨hx, hb, hml, hown, hts⟩ (kX0_byteOf l D aX qX cX u.1 u.2.1 u.2.2.1 u.2.2.2.1 u.2.2.2.2.1 u.2.2.2.2.2.1 u.2.2.2.2.2.2 hI.1 hI.2.1 (xs (i + 1)) (xs (i + 2)) (rn_I_len hI)) (cwV 2 hts gL_law_X0_byteOf rfl rfl rfl (by decide +kernel) ⟨Nat.le_of_ble_eq_true rfl, Nat.le_of_ble_eq_true rfl⟩) hKX (rb_Psub hP [0, 1, 2, 3, 4, 5] rfl) rfl rfl rfl rfl hl.1 rfl (Nat.le_of_ble_eq_true rfl) dL_law_226 ⟨Nat.le_of_ble_eq_true rfl, Nat.le_of_ble_eq_true rfl⟩ ?_
        refine lv_aload_n hx hb dL_law_229 rfl (lv_at hl 2 rfl) ?_
        refine lv_aload_n hx hb dL_law_230 rfl (lv_at hl 0 rfl) ?_
        refine lv_iload_n hx hb dL_law_231 rfl (lv_at hl 3 rfl) ?_
        refine lv_iconst (v := nI 1) hx hb dL_law_232 (by decide) ?_
        refine lv_iadd hx hb dL_law_233 ?_
        refine rb_top (y := nI (i + 1)) (nI_add i 1) ?_
        refine rb_sld hx hb hX hbl hbA hS (i := i + 1) (by omega) (by omega) dL_law_234 ?_
        refine lv_aload_n hx hb dL_law_235 rfl (lv_at hl 0 rfl) ?_
        refine lv_iload_n hx hb dL_law_236 rfl (lv_at hl 3 rfl) ?_
        refine lv_iconst (v := nI 2) hx hb dL_law_237 (by decide) ?_
        refine lv_iadd hx hb dL_law_238 ?_
        refine rb_top (y := nI (i + 2)) (nI_add i 2) ?_
        refine rb_sld hx hb hX hbl hbA hS (i := i + 2) (by omega) (by omega) dL_law_239 ?_
        refine rd_call (ci := 1) (b := aM) (As := [.int (xs (i + 1)), .int (xs (i + 2))]) (rest := [.int (rn_bo u.2.2.1 u.2.2.2.1 u.2.2.2.2.2.2 (xs (i + 1)) (xs (i + 2)))]) ⟨hx, hb, hml, hown, hts⟩ (kX1_byteOf l D aM qM cM u.1 u.2.1 u.2.2.1 u.2.2.2.1 u.2.2.2.2.1 u.2.2.2.2.2.1 u.2.2.2.2.2.2 hI.1 hI.2.1 (xs (i + 1)) (xs (i + 2)) (rn_I_len hI)) (cwV 2 hts gL_law_X1_byteOf rfl rfl rfl (by decide +kernel) ⟨Nat.le_of_ble_eq_true rfl, Nat.le_of_ble_eq_true rfl⟩) hKM (rb_Psub hP [6, 7, 8, 9, 10, 11] rfl) rfl rfl rfl rfl hl.1 rfl (Nat.le_of_ble_eq_true rfl) dL_law_240 ⟨Nat.le_of_ble_eq_true rfl, Nat.le_of_ble_eq_true rfl⟩ ?_
        refine lv_icmp_eq (tgt := 284) hx hb dL_law_243 (by decide) (fun c6 => ?_) (fun c6 => ?_)
        · refine lv_iinc (v := nI (i + 4)) (lv' := [(3, .int (nI (i + 4))), (0, .ref b), (1, .ref aX), (2, .ref aM)]) hx hb dL_law_284 hl (k := 3) rfl (nI_add i 4) (by decide) rfl (fun ls hl => ?_)
          refine lv_goto (tgt := 18) hx hb dL_law_287 (by decide) ?_
          exact ih (i + 4) u H locs ls (by omega) (by omega) (rn_I_mono (by omega) hI) hP hD hS (lv_sub hl [1, 2, 3, 0] rfl)
        · exact absurd rfl c6
      · refine lv_tableIn (off := 216) (tgt := 248) hx hb dL_law_32 (by decide) (by decide) (by decide) (by decide) ?_
        refine lv_aload_n hx hb dL_law_248 rfl (lv_at hl 1 rfl) ?_
        refine lv_aload_n hx hb dL_law_249 rfl (lv_at hl 0 rfl) ?_
        refine lv_iload_n hx hb dL_law_250 rfl (lv_at hl 3 rfl) ?_
        refine lv_iconst (v := nI 1) hx hb dL_law_251 (by decide) ?_
        refine lv_iadd hx hb dL_law_252 ?_
        refine rb_top (y := nI (i + 1)) (nI_add i 1) ?_
        refine rb_sld hx hb hX hbl hbA hS (i := i + 1) (by omega) (by omega) dL_law_253 ?_
        refine rd_call (ci := 0) (b := aX) (As := [.int (xs (i + 1))]) (rest := []) ⟨hx, hb, hml, hown, hts⟩ (kX0_count l D aX qX cX u.1 u.2.1 u.2.2.1 u.2.2.2.1 u.2.2.2.2.1 u.2.2.2.2.2.1 u.2.2.2.2.2.2 hI.1 hI.2.1 (xs (i + 1))) (cwV 1 hts gL_law_X0_count rfl rfl rfl (by decide +kernel) ⟨Nat.le_of_ble_eq_true rfl, Nat.le_of_ble_eq_true rfl⟩) hKX (rb_Psub hP [0, 1, 2, 3, 4, 5] rfl) rfl rfl rfl rfl hl.1 rfl (Nat.le_of_ble_eq_true rfl) dL_law_254 ⟨Nat.le_of_ble_eq_true rfl, Nat.le_of_ble_eq_true rfl⟩ ?_
        refine lv_aload_n hx hb dL_law_257 rfl (lv_at hl 2 rfl) ?_
        refine lv_aload_n hx hb dL_law_258 rfl (lv_at hl 0 rfl) ?_
        refine lv_iload_n hx hb dL_law_259 rfl (lv_at hl 3 rfl) ?_
        refine lv_iconst (v := nI 1) hx hb dL_law_260 (by decide) ?_
        refine lv_iadd hx hb dL_law_261 ?_
        refine rb_top (y := nI (i + 1)) (nI_add i 1) ?_
        refine rb_sld hx hb hX hbl hbA hS (i := i + 1) (by omega) (by omega) dL_law_262 ?_
        refine rd_call (ci := 1) (b := aM) (As := [.int (xs (i + 1))]) (rest := [.int (rn_cnt u.2.1 u.2.2.2.2.1 u.2.2.2.2.2.1 u.2.2.2.2.2.2 (xs (i + 1)))]) ⟨hx, hb, hml, hown, hts⟩ (kX1_count l D aM qM cM u.1 u.2.1 u.2.2.1 u.2.2.2.1 u.2.2.2.2.1 u.2.2.2.2.2.1 u.2.2.2.2.2.2 hI.1 hI.2.1 (xs (i + 1)) (rn_I_g (by omega) hI) (rn_I_r (by omega) hI)) (cwV 1 hts gL_law_X1_count rfl rfl rfl (by decide +kernel) ⟨Nat.le_of_ble_eq_true rfl, Nat.le_of_ble_eq_true rfl⟩) hKM (rb_Psub hP [6, 7, 8, 9, 10, 11] rfl) rfl rfl rfl rfl hl.1 rfl (Nat.le_of_ble_eq_true rfl) dL_law_263 ⟨Nat.le_of_ble_eq_true rfl, Nat.le_of_ble_eq_true rfl⟩ ?_
        refine lv_icmp_eq (tgt := 284) hx hb dL_law_266 (by decide) (fun c7 => ?_) (fun c7 => ?_)
        · refine lv_iinc (v := nI (i + 4)) (lv' := [(3, .int (nI (i + 4))), (0, .ref b), (1, .ref aX), (2, .ref aM)]) hx hb dL_law_284 hl (k := 3) rfl (nI_add i 4) (by decide) rfl (fun ls hl => ?_)
          refine lv_goto (tgt := 18) hx hb dL_law_287 (by decide) ?_
          exact ih (i + 4) u H locs ls (by omega) (by omega) (rn_I_mono (by omega) hI) hP hD hS (lv_sub hl [1, 2, 3, 0] rfl)
        · exact absurd rfl c7
      · refine lv_tableIn (off := 239) (tgt := 271) hx hb dL_law_32 (by decide) (by decide) (by decide) (by decide) ?_
        refine lv_aload_n hx hb dL_law_271 rfl (lv_at hl 1 rfl) ?_
        refine wr_call (ci := 0) (b := aX) (As := []) (rest := []) (wr := wN aM qM cM u) ⟨hx, hb, hml, hown, hts⟩ (kX0_clear l D aX qX cX u.1 u.2.1 u.2.2.1 u.2.2.2.1 u.2.2.2.2.1 u.2.2.2.2.2.1 u.2.2.2.2.2.2 hI.1 hI.2.1 H.size) (cwV 0 hts gL_law_X0_clear rfl rfl rfl (by decide +kernel) ⟨Nat.le_of_ble_eq_true rfl, Nat.le_of_ble_eq_true rfl⟩) hKX hP hD hS hA [0, 1, 2, 3, 4, 5] [6, 7, 8, 9, 10, 11] rfl rfl (by decide) (by decide) (by decide) rfl rfl rfl rfl hl.1 rfl (Nat.le_of_ble_eq_true rfl) dL_law_272 ⟨Nat.le_of_ble_eq_true rfl, Nat.le_of_ble_eq_true rfl⟩ (fun H locs hP hD hS => ?_)
        have hP : va_P D vwCl (wN aM qM cM u ++ wS aX qX cX ((u.1, 0, u.2.2.1, u.2.2.2.1, u.2.2.2.2.1, u.2.2.2.2.2.1, 0))) H := hP
        have hD : va_D A (wN aM qM cM u ++ wS aX qX cX ((u.1, 0, u.2.2.1, u.2.2.2.1, u.2.2.2.2.1, u.2.2.2.2.2.1, 0))) := hD
        refine lv_aload_n hx hb dL_law_275 rfl (lv_at hl 2 rfl) ?_
        refine wr_call (ci := 1) (b := aM) (As := []) (rest := [.int (nI u.2.2.2.2.2.2)]) (wr := wS aX qX cX ((u.1, 0, u.2.2.1, u.2.2.2.1, u.2.2.2.2.1, u.2.2.2.2.2.1, 0))) ⟨hx, hb, hml, hown, hts⟩ (kX1_clear l D aM qM cM u.1 u.2.1 u.2.2.1 u.2.2.2.1 u.2.2.2.2.1 u.2.2.2.2.2.1 u.2.2.2.2.2.2 hI.1 hI.2.1 H.size) (cwV 0 hts gL_law_X1_clear rfl rfl rfl (by decide +kernel) ⟨Nat.le_of_ble_eq_true rfl, Nat.le_of_ble_eq_true rfl⟩) hKM hP hD hS hA [0, 1, 2, 3, 4, 5] [6, 7, 8, 9, 10, 11] rfl rfl (by decide) (by decide) (by decide) rfl rfl rfl rfl hl.1 rfl (Nat.le_of_ble_eq_true rfl) dL_law_276 ⟨Nat.le_of_ble_eq_true rfl, Nat.le_of_ble_eq_true rfl⟩ (fun H locs hP hD hS => ?_)
        have hP : va_P D vwCl (wS aX qX cX ((u.1, 0, u.2.2.1, u.2.2.2.1, u.2.2.2.2.1, u.2.2.2.2.2.1, 0)) ++ wN aM qM cM ((u.1, 0, u.2.2.1, u.2.2.2.1, u.2.2.2.2.1, u.2.2.2.2.2.1, 0))) H := hP
        have hD : va_D A (wS aX qX cX ((u.1, 0, u.2.2.1, u.2.2.2.1, u.2.2.2.2.1, u.2.2.2.2.2.1, 0)) ++ wN aM qM cM ((u.1, 0, u.2.2.1, u.2.2.2.1, u.2.2.2.2.1, u.2.2.2.2.2.1, 0))) := hD
        refine lv_icmp_eq (tgt := 284) hx hb dL_law_279 (by decide) (fun c8 => ?_) (fun c8 => ?_)
        · refine lv_iinc (v := nI (i + 4)) (lv' := [(3, .int (nI (i + 4))), (0, .ref b), (1, .ref aX), (2, .ref aM)]) hx hb dL_law_284 hl (k := 3) rfl (nI_add i 4) (by decide) rfl (fun ls hl => ?_)
          refine lv_goto (tgt := 18) hx hb dL_law_287 (by decide) ?_
          exact ih (i + 4) (u.1, 0, u.2.2.1, u.2.2.2.1, u.2.2.2.2.1, u.2.2.2.2.2.1, 0) H locs ls (by omega) (by omega) (rn_I_mono (by omega) (rn_I_cl hI)) hP hD hS (lv_sub hl [1, 2, 3, 0] rfl)
        · exact absurd rfl c8
end
section
set_option maxHeartbeats 8000000 in
set_option maxRecDepth 100000 in
/-- the law, from its entry -/
theorem whole_start {p : Program} {e : Env} {s : State} {m : MethodId} {below : List Frame} {meth : Method} {c : Code} (l : Launch) {b L : Nat} {xs : Nat → Int32} (hL : L ≤ 2048) (C0 : lw_At p s m meth c b L xs) : W p l e room_1 s m #[Value.ref b] below meth c s.heap [] 0 0 (lw_Z below #[Value.ref b] s) (entryFrame m ([Value.ref b] : List Value).toArray 4) := by
  obtain ⟨hx, hb, hr, hml, hown, hts0, hX, hbl, hlocks, hgv⟩ := id C0
  have hown : s.vm.findClass RL = some m.cls := hown
  have hA : ∀ q : Nat, s.heap.size ≤ q → (fun q : Nat => s.heap.size ≤ q) q := fun _ h => h
  obtain ⟨c0, iS0, hKn0⟩ := u_known (C := RX0) (T := TX0) (N := 7) (n := 7) hts0 inX0 (hts0 (.instantiable RX0 7) (wsL_law_in _ (by decide +kernel)))
  obtain ⟨c1, iS1, hKn1⟩ := u_known (C := RX1) (T := TX1) (N := 7) (n := 7) hts0 inX1 (hts0 (.instantiable RX1 7) (wsL_law_in _ (by decide +kernel)))
  have hts := fun w h => hts0 w (wsL_law_in w h)
  obtain ⟨D, hKc⟩ : ∃ (D : va_G), ∀ (k : Nat) (q : vw_C), vwCl[k]? = some q → u_Kn s q.1 q.2.1 q.2.2 (D.1 k) (D.2 k) := by
    refine ⟨(fun k => if k = 0 then c0 else c1, fun k => if k = 0 then iS0 else iS1), ?_⟩
    intro k q hq
    match k, hq with
    | 0, hq => cases hq; exact hKn0
    | 1, hq => cases hq; exact hKn1
    | k + 2, hq => simp [vwCl] at hq
  have hS : va_S (fun q : Nat => s.heap.size ≤ q) s.heap s.heap [] := va_S.rf
  have hK : va_K D vwCl [] s := ⟨hKc, fun k q h => by simp at h⟩
  have hP : va_P D vwCl [] s.heap := fun k q h => by simp at h
  have hD : va_D (fun q : Nat => s.heap.size ≤ q) [] := ⟨fun i j p q h => by simp at h, fun k q h => by simp at h⟩
  have hl := lv_entry ([.ref b]) (n := 4) (Nat.le_of_ble_eq_true rfl)
  rw [lg_entry_eq]
  generalize (lg_sl ([.ref b]) ++ List.replicate (4 - (lg_sl ([.ref b])).length) Slot.unset).toArray = ls at hl ⊢
  have hl : lv_has ls 4 [(0, .ref b)] := hl
  refine va_new (ci := 0) (fs := [.null, .int 0, .null, .null, .null, .null, .int 0]) (C := RX0) (T := TX0) (N := 7) hx hb hts inlX0 tyX0 tyX0_ok hown (hts (.classLink RL 7 RX0) (by decide +kernel)) (hts (.instantiable RX0 7) (by decide +kernel)) (hts (.initialized RX0) (by decide +kernel)) hK hP hD hS hA rfl (fun j hj => by rcases (show j = 0 ∨ j = 1 ∨ j = 2 ∨ j = 3 ∨ j = 4 ∨ j = 5 ∨ j = 6 by omega) with rfl | rfl | rfl | rfl | rfl | rfl | rfl <;> rfl) (Nat.le_of_ble_eq_true rfl) (Nat.le_of_ble_eq_true rfl) dL_law_0 (fun aX H hP hD hS => ?_)
  have hP : va_P D vwCl [(aX, .inr (0, [.null, .int 0, .null, .null, .null, .null, .int 0]))] H := hP
  have hD : va_D (fun q : Nat => s.heap.size ≤ q) [(aX, .inr (0, [.null, .int 0, .null, .null, .null, .null, .int 0]))] := hD
  refine W.widen (k := 1) (n := 7) (by omega) (by omega) ?_
  refine lv_dup hx hb dL_law_3 rfl ?_
  refine ct_call (b := aX) (As := []) (rest := [.ref aX]) (wr := []) ⟨hx, hb, hml, hown, hts⟩ (kX0_init l D aX H.size) (cwI 0 hts gL_law_X0_init rfl rfl rfl (hts (.initialized RX0) (by decide +kernel)) (hts (.methodLink RL 9 yX0_init) (by decide +kernel)) (hts (.instanceMethod yX0_init) (by decide +kernel)) rfl (by decide +kernel) ⟨Nat.le_of_ble_eq_true rfl, Nat.le_of_ble_eq_true rfl⟩) hK hP hD hS hA [0] [] rfl rfl (by decide) (by decide) (by decide) rfl hl.1 rfl (Nat.le_of_ble_eq_true rfl) dL_law_4 ⟨Nat.le_of_ble_eq_true rfl, Nat.le_of_ble_eq_true rfl⟩ (fun uX H locs hKX hP hD hS => ?_)
  have hP : va_P D vwCl (wX aX uX.1 uX.2 (fun _ => 0) 0 (fun _ => 0) (fun _ => 0) (fun _ => 0) (fun _ => 0) 0) H := hP
  have hD : va_D (fun q : Nat => s.heap.size ≤ q) (wX aX uX.1 uX.2 (fun _ => 0) 0 (fun _ => 0) (fun _ => 0) (fun _ => 0) (fun _ => 0) 0) := hD
  refine W.widen (k := 6) (n := 12667) (Nat.le_of_ble_eq_true rfl) (Nat.le_of_ble_eq_true rfl) ?_
  refine lv_astore_n (lv' := [(1, .ref aX), (0, .ref b)]) hx hb dL_law_7 rfl hl (by decide) rfl (fun ls hl => ?_)
  refine va_new (ci := 1) (fs := [.null, .int 0, .null, .null, .null, .null, .int 0]) (C := RX1) (T := TX1) (N := 7) hx hb hts inlX1 tyX1 tyX1_ok hown (hts (.classLink RL 10 RX1) (by decide +kernel)) (hts (.instantiable RX1 7) (by decide +kernel)) (hts (.initialized RX1) (by decide +kernel)) hKX hP hD hS hA rfl (fun j hj => by rcases (show j = 0 ∨ j = 1 ∨ j = 2 ∨ j = 3 ∨ j = 4 ∨ j = 5 ∨ j = 6 by omega) with rfl | rfl | rfl | rfl | rfl | rfl | rfl <;> rfl) (Nat.le_of_ble_eq_true rfl) (Nat.le_of_ble_eq_true rfl) dL_law_8 (fun aM H hP hD hS => ?_)
  have hP : va_P D vwCl (wX aX uX.1 uX.2 (fun _ => 0) 0 (fun _ => 0) (fun _ => 0) (fun _ => 0) (fun _ => 0) 0 ++ [(aM, .inr (1, [.null, .int 0, .null, .null, .null, .null, .int 0]))]) H := hP
  have hD : va_D (fun q : Nat => s.heap.size ≤ q) (wX aX uX.1 uX.2 (fun _ => 0) 0 (fun _ => 0) (fun _ => 0) (fun _ => 0) (fun _ => 0) 0 ++ [(aM, .inr (1, [.null, .int 0, .null, .null, .null, .null, .int 0]))]) := hD
  refine W.widen (k := 7) (n := 12674) (Nat.le_of_ble_eq_true rfl) (Nat.le_of_ble_eq_true rfl) ?_
  refine lv_dup hx hb dL_law_11 rfl ?_
  refine ct_call (b := aM) (As := []) (rest := [.ref aM]) (wr := wX aX uX.1 uX.2 (fun _ => 0) 0 (fun _ => 0) (fun _ => 0) (fun _ => 0) (fun _ => 0) 0) ⟨hx, hb, hml, hown, hts⟩ (kX1_init l D aM H.size) (cwI 0 hts gL_law_X1_init rfl rfl rfl (hts (.initialized RX1) (by decide +kernel)) (hts (.methodLink RL 12 yX1_init) (by decide +kernel)) (hts (.instanceMethod yX1_init) (by decide +kernel)) rfl (by decide +kernel) ⟨Nat.le_of_ble_eq_true rfl, Nat.le_of_ble_eq_true rfl⟩) hK hP hD hS hA [6] [0, 1, 2, 3, 4, 5] rfl rfl (by decide) (by decide) (by decide) rfl hl.1 rfl (Nat.le_of_ble_eq_true rfl) dL_law_12 ⟨Nat.le_of_ble_eq_true rfl, Nat.le_of_ble_eq_true rfl⟩ (fun uM H locs hKM hP hD hS => ?_)
  rw [← wM0_eq] at hP hD
  refine W.widen (k := 12) (n := 25334) (Nat.le_of_ble_eq_true rfl) (Nat.le_of_ble_eq_true rfl) ?_
  refine lv_astore_n (lv' := [(2, .ref aM), (1, .ref aX), (0, .ref b)]) hx hb dL_law_15 rfl hl (by decide) rfl (fun ls hl => ?_)
  refine lv_iconst (v := nI 0) hx hb dL_law_16 (by decide) ?_
  refine lv_istore_n (lv' := [(3, .int (nI 0)), (2, .ref aM), (1, .ref aX), (0, .ref b)]) hx hb dL_law_17 rfl hl (by decide) rfl (fun ls hl => ?_)
  exact law_loop (D := D) (qX := uX.1) (cX := uX.2) (qM := uM.1) (cM := uM.2) hL C0 (hKX.app hKM) hA (fun _ h => h) L 0 ((fun _ => 0), 0, (fun _ => 0), (fun _ => 0), (fun _ => 0), (fun _ => 0), 0) H locs ls (by omega) (by omega) rn_I_0 hP hD hS (lv_sub hl [3, 2, 1, 0] rfl)
-- ===== YOUR PART ENDS =====
set_option maxHeartbeats 4000000 in
theorem lw_walk (l : Launch) (b : Addr) (xs : List Int32) : MetFree l x (headSpec (Jvm.Cond.code x code maxLocals ret :: tables_1) room_1) (lw_P b xs) (fun _ _ _ _ _ => True) lw_Q := by
  refine MetFree.of_bodyS (code := code) (maxLocals := maxLocals) (ret := ret) (by decide) ?_ ?_
  · intro args s m h hn
    obtain ⟨meth, c, h1, h2, h3, h4, h5, h6, -, -⟩ := Cond.code_spec hn (atoms_spec (ws := Jvm.Cond.code x code maxLocals ret :: tables_1) h _ List.mem_cons_self)
    exact ⟨meth, c, h1, h2, h3, h4, h5, h6⟩
  · intro p e s m args below meth c s₁ B hml0 hP _
    obtain ⟨rfl, hx, hbd, hgv⟩ := hP
    obtain ⟨scr, harrAt, hlist, hof, hsmall⟩ := hx
    obtain ⟨hcb, hkn, -, -⟩ := State.arrayAt?_spec harrAt
    have hown : s.vm.findClass R_law = some m.cls := findClass_of_methodNamed B.named
    have hts0 : ∀ c ∈ (Jvm.Cond.code x code maxLocals ret :: tables_1), c.before #[Value.ref b] s = true := atoms_spec (ws := Jvm.Cond.code x code maxLocals ret :: tables_1) B.pre
    have hts : ∀ w ∈ lw_tbl, w.before #[Value.ref b] s = true := k2_hts_sels lw_privs (fun w hw => hts0 w (List.mem_cons_of_mem _ hw)) lw_privs_ok
    have hml : c.maxLocals = 4 := B.maxLocals_eq (hts0 _ List.mem_cons_self)
    have X₀ : Stand p l e room_1 s m #[Value.ref b] below meth c s₁ [] 0 0 := Stand.of_body B
    have hh0 : s₁.heap = s.heap := by rw [B.state]; rfl
    have hsz : scr.slots.size = xs.length := by rw [← Array.length_toList, hlist, List.length_map]
    have hval : ∀ j : Nat, j < xs.length → scr.slots[j]? = some (.int (xs.getD j 0)) := fun j hj => by
      rw [← Array.getElem?_toList, hlist]
      simp [hj]
    have hbl : b < s.heap.size := (Array.getElem?_eq_some_iff.mp hcb).1
    have hX : va_X b xs.length (fun j => xs.getD j 0) s s.heap := ⟨scr, hcb, hof, hkn, hsz, hval⟩
    have K : W p l e room_1 s m #[Value.ref b] below meth c s₁.heap [] 0 0 (lw_Z below #[Value.ref b] s) (entryFrame m ([Value.ref b] : List Value).toArray 4) := by
      rw [hh0]
      exact whole_start l hbd ⟨B.exec, B.bytes, B.returns, hml, hown, hts, hX, hbl, B.notSynchronized, hgv⟩
    obtain ⟨t, a1, o, b1, b2, b3⟩ := K s₁ rfl X₀
    exact ⟨t, o, a1, b1, b2, b3⟩
theorem lw_pre_spec {args : Array Value} {s : State} (h : (Jvm.Cond.and given_1 narrow_1).before args s = true) (hr : rest_1_c.before args s = true) : ∃ (b : Addr) (xs : List Int32), lw_P b xs args s := by
  have hs := flat_of_before _ h
  have hq := flat_of_before _ hr
  have hc : (Cond.count 1).before args s = true := hs _ (by decide +kernel)
  have harr : (Cond.arrayOf (.arg 0) .int).before args s = true := hs _ (by decide +kernel)
  have hle : (Cond.le (.length (.arg 0)) (.int 2048)).before args s = true := hs _ (by decide +kernel)
  have hlen : (Cond.isInt (.length (.arg 0))).before args s = true := hq _ (by decide +kernel)
  have hall : (Cond.all (.arg 0) (.isInt (.elem (.arg 0) (.index 0)))).before args s = true := hq _ (by decide +kernel)
  obtain ⟨b, xs, hb, hx⟩ := State.ints_of_pre rfl harr hlen hall
  have hsm : xs.length < 2 ^ 31 := hx.choose_spec.2.2.2
  have hev : (Term.length (.arg 0)).eval args s none [] s = some (.int xs.length.toInt32) := hx.length_eval hb
  have hv := Cond.le_ints hev (show (Term.int 2048).eval args s none [] s = some (.int 2048) from rfl)
  have hd : xs.length.toInt32 ≤ 2048 := by
    simpa [Cond.before, Cond.holds, hv] using hle
  have hN : xs.length ≤ 2048 := (Int32.ofNat_le_ofNat hsm (by decide)).mp (show Int32.ofNat xs.length ≤ Int32.ofNat 2048 from hd)
  exact ⟨b, xs, Cond.one_arg hc (show args[0]? = some (.ref b) from hb), hx, hN, h⟩
theorem lw_comes (l : Launch) : Comes l x (Jvm.Cond.code x code maxLocals ret :: tables_1) room_1 (fun tb e args s => Calls_1 tb e args s ∧ rest_1 tb e args s ∧ Pre_1 tb e args s)
    (fun _ _ args s o t => lw_Q args s o t) := by
  intro p e ha hc hk s m args below hf hfit hheap happ hpre
  obtain ⟨b, xs, hP⟩ := lw_pre_spec hpre.2.2 hpre.2.1
  obtain ⟨k, o, h1, h2, h3, hQ⟩ := lw_walk l b xs p e ha hc hk s m args below hf ((Spec.applies_iff_loose hf).mp happ).1 hP trivial
  exact ⟨k, o, h1, h2, h3, hQ⟩
theorem lw_frame {s t : State} {o : Outcome} {args : Array Value} (h : Framed s o t [] 12 25334) :
    Framed s o t (fieldLocs frame_1_writes args s ++ arrayLocs frame_1_arrays args s ++ staticLocs frame_1_statics s) 12 25334 := h
theorem lw_limb (L : Cond) (hL : ∀ (args : Array Value) (s t : State), L.after args s (.returned (some (.int 1))) t = true) :
    ArmFor flags0 classFile x code maxLocals ret World_1 tables_1 room_1 Calls_1 rest_1 Pre_1
      (fun tb e a s o t => postC L tb e a s o t ∧ Framed s o t (fieldLocs frame_1_writes a s ++ arrayLocs frame_1_arrays a s ++ staticLocs frame_1_statics s) 12 25334) := by
  intro l _ _ _ p e ha hc hk s m args below hf hfit hheap happ hpre
  obtain ⟨k, o, h1, h2, h3, rfl, hF⟩ := lw_comes l p e ha hc hk s m args below hf hfit hheap happ hpre
  exact ⟨k, _, h1, h2, h3, hL args s _, lw_frame hF⟩
theorem i_vc : Claimed_1_1 ∧ Claimed_1_2 := ⟨lw_limb limb_1_1 (fun args s t => by simp [limb_1_1, Cond.after, Cond.holds, Cond.value]), lw_limb limb_1_2 (fun args s t => Cond.after_iff.mpr (by
  first | (rw [show limb_1_2 = Cond.eq .result (.int 1) from rfl, Cond.eq_ints (x := 1) (y := 1) rfl rfl]; simp; done) | (simp [limb_1_2, Cond.value, Term.eval]; done)))⟩
end
