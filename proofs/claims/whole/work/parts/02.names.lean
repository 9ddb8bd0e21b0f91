-- the classes of the system by numbers, and the fields of those whose objects are made (printed by wip/gen/emit.py out of the claim)
def am_cns : List String := ["GapLetterLaw", "GapLetter", "GapLetter$Chance", "GapLetter$Clues", "GapLetter$Game", "GapLetter$Losses", "GapLetter$Now", "GapLetter$OldWords", "GapLetter$Past", "GapLetter$Spelling", "GapLetter$Teller", "GapLetter$Tokens", "GapLetter$Tongue", "GapLetterModel", "GapLetterModel$Tongue", "java/lang/Integer", "java/lang/Math", "java/util/Arrays", "java/util/NoSuchElementException"]
def am_cn (k : Nat) : String := am_cns.getD k ""
def am_T0 : u_T := fun k => match k with
  | 0 => ("GapLetter$Game", "behind", "[I", true)
  | 1 => ("GapLetter$Game", "ahead", "[I", true)
  | 2 => ("GapLetter$Game", "winning", "[I", true)
  | 3 => ("GapLetter$Game", "endings", "[I", true)
  | 4 => ("GapLetter$Game", "sayable", "I", false)
  | 5 => ("GapLetter$Game", "laid", "Z", false)
  | 6 => ("GapLetter$Game", "solved", "Z", false)
  | _ => ("GapLetter$Game", "longestRow", "I", false)
def am_y0 : Nat → FieldType := fun k => match k with
  | 0 => .array .int
  | 1 => .array .int
  | 2 => .array .int
  | 3 => .array .int
  | 4 => .int
  | 5 => .boolean
  | 6 => .boolean
  | _ => .int
theorem am_n0 : ∀ a, a < 8 → ∀ b, b < 8 → a ≠ b → (am_T0 a).2.1 ≠ (am_T0 b).2.1 := by decide +kernel
theorem am_p0 : ∀ k, k < 8 → parseFieldDescriptor (am_T0 k).2.2.1 = some (am_y0 k) := by decide +kernel
def am_T1 : u_T := fun k => match k with
  | 0 => ("GapLetter$Now", "gone", "I", false)
  | 1 => ("GapLetter$Now", "minted", "I", false)
  | _ => ("GapLetter$Now", "day", "I", false)
def am_y1 : Nat → FieldType := fun k => match k with
  | 0 => .int
  | 1 => .int
  | _ => .int
theorem am_n1 : ∀ a, a < 3 → ∀ b, b < 3 → a ≠ b → (am_T1 a).2.1 ≠ (am_T1 b).2.1 := by decide +kernel
theorem am_p1 : ∀ k, k < 3 → parseFieldDescriptor (am_T1 k).2.2.1 = some (am_y1 k) := by decide +kernel
def am_T2 : u_T := fun k => match k with
  | 0 => ("GapLetter$Past", "ring", "[LGapLetter$Now;", true)
  | 1 => ("GapLetter$Past", "marked", "[LGapLetter$Now;", true)
  | 2 => ("GapLetter$Past", "oldest", "I", false)
  | 3 => ("GapLetter$Past", "kept", "I", false)
  | _ => ("GapLetter$Past", "marks", "I", false)
def am_y2 : Nat → FieldType := fun k => match k with
  | 0 => .array (.object "GapLetter$Now")
  | 1 => .array (.object "GapLetter$Now")
  | 2 => .int
  | 3 => .int
  | _ => .int
theorem am_n2 : ∀ a, a < 5 → ∀ b, b < 5 → a ≠ b → (am_T2 a).2.1 ≠ (am_T2 b).2.1 := by decide +kernel
theorem am_p2 : ∀ k, k < 5 → parseFieldDescriptor (am_T2 k).2.2.1 = some (am_y2 k) := by decide +kernel
def am_T3 : u_T := fun k => match k with
  | 0 => ("GapLetter$Teller", "tokens", "LGapLetter$Tokens;", true)
  | 1 => ("GapLetter$Teller", "keys", "[J", true)
  | 2 => ("GapLetter$Teller", "into", "LGapLetter$Tongue;", false)
  | 3 => ("GapLetter$Teller", "fault", "I", false)
  | _ => ("GapLetter$Teller", "place", "I", false)
def am_y3 : Nat → FieldType := fun k => match k with
  | 0 => .object "GapLetter$Tokens"
  | 1 => .array .long
  | 2 => .object "GapLetter$Tongue"
  | 3 => .int
  | _ => .int
theorem am_n3 : ∀ a, a < 5 → ∀ b, b < 5 → a ≠ b → (am_T3 a).2.1 ≠ (am_T3 b).2.1 := by decide +kernel
theorem am_p3 : ∀ k, k < 5 → parseFieldDescriptor (am_T3 k).2.2.1 = some (am_y3 k) := by decide +kernel
def am_T4 : u_T := fun k => match k with
  | 0 => ("GapLetter$Tokens", "tape", "[B", false)
  | 1 => ("GapLetter$Tokens", "end", "I", false)
  | 2 => ("GapLetter$Tokens", "behind", "I", false)
  | 3 => ("GapLetter$Tokens", "kind", "I", false)
  | 4 => ("GapLetter$Tokens", "place", "I", false)
  | 5 => ("GapLetter$Tokens", "spelt", "J", false)
  | _ => ("GapLetter$Tokens", "whole", "I", false)
def am_y4 : Nat → FieldType := fun k => match k with
  | 0 => .array .byte
  | 1 => .int
  | 2 => .int
  | 3 => .int
  | 4 => .int
  | 5 => .long
  | _ => .int
theorem am_n4 : ∀ a, a < 7 → ∀ b, b < 7 → a ≠ b → (am_T4 a).2.1 ≠ (am_T4 b).2.1 := by decide +kernel
theorem am_p4 : ∀ k, k < 7 → parseFieldDescriptor (am_T4 k).2.2.1 = some (am_y4 k) := by decide +kernel
def am_T5 : u_T := fun k => match k with
  | 0 => ("GapLetter$Tongue", "year", "I", false)
  | 1 => ("GapLetter$Tongue", "things", "I", false)
  | 2 => ("GapLetter$Tongue", "sayings", "I", false)
  | 3 => ("GapLetter$Tongue", "words", "I", false)
  | 4 => ("GapLetter$Tongue", "coined", "I", false)
  | 5 => ("GapLetter$Tongue", "goings", "I", false)
  | 6 => ("GapLetter$Tongue", "hearings", "I", false)
  | 7 => ("GapLetter$Tongue", "olds", "I", false)
  | 8 => ("GapLetter$Tongue", "names", "[J", true)
  | 9 => ("GapLetter$Tongue", "partCounts", "[I", true)
  | 10 => ("GapLetter$Tongue", "parts", "[I", true)
  | 11 => ("GapLetter$Tongue", "spelt", "[J", true)
  | 12 => ("GapLetter$Tongue", "lengths", "[I", true)
  | 13 => ("GapLetter$Tongue", "means", "[I", true)
  | 14 => ("GapLetter$Tongue", "users", "[I", true)
  | 15 => ("GapLetter$Tongue", "meaning", "[I", true)
  | 16 => ("GapLetter$Tongue", "goingDays", "[I", true)
  | 17 => ("GapLetter$Tongue", "hearingLetters", "[I", true)
  | 18 => ("GapLetter$Tongue", "shunned", "I", false)
  | _ => ("GapLetter$Tongue", "old", "[J", true)
def am_y5 : Nat → FieldType := fun k => match k with
  | 0 => .int
  | 1 => .int
  | 2 => .int
  | 3 => .int
  | 4 => .int
  | 5 => .int
  | 6 => .int
  | 7 => .int
  | 8 => .array .long
  | 9 => .array .int
  | 10 => .array .int
  | 11 => .array .long
  | 12 => .array .int
  | 13 => .array .int
  | 14 => .array .int
  | 15 => .array .int
  | 16 => .array .int
  | 17 => .array .int
  | 18 => .int
  | _ => .array .long
theorem am_n5 : ∀ a, a < 20 → ∀ b, b < 20 → a ≠ b → (am_T5 a).2.1 ≠ (am_T5 b).2.1 := by decide +kernel
theorem am_p5 : ∀ k, k < 20 → parseFieldDescriptor (am_T5 k).2.2.1 = some (am_y5 k) := by decide +kernel
def am_T6 : u_T := fun k => match k with
  | 0 => ("GapLetter", "tape", "[B", true)
  | 1 => ("GapLetter", "teller", "LGapLetter$Teller;", true)
  | 2 => ("GapLetter", "now", "LGapLetter$Now;", true)
  | 3 => ("GapLetter", "past", "LGapLetter$Past;", true)
  | 4 => ("GapLetter", "game", "LGapLetter$Game;", true)
  | 5 => ("GapLetter", "tongue", "LGapLetter$Tongue;", false)
  | 6 => ("GapLetter", "told", "Z", false)
  | 7 => ("GapLetter", "fed", "I", false)
  | 8 => ("GapLetter", "trouble", "I", false)
  | 9 => ("GapLetter", "fault", "I", false)
  | _ => ("GapLetter", "place", "I", false)
def am_y6 : Nat → FieldType := fun k => match k with
  | 0 => .array .byte
  | 1 => .object "GapLetter$Teller"
  | 2 => .object "GapLetter$Now"
  | 3 => .object "GapLetter$Past"
  | 4 => .object "GapLetter$Game"
  | 5 => .object "GapLetter$Tongue"
  | 6 => .boolean
  | 7 => .int
  | 8 => .int
  | 9 => .int
  | _ => .int
theorem am_n6 : ∀ a, a < 11 → ∀ b, b < 11 → a ≠ b → (am_T6 a).2.1 ≠ (am_T6 b).2.1 := by decide +kernel
theorem am_p6 : ∀ k, k < 11 → parseFieldDescriptor (am_T6 k).2.2.1 = some (am_y6 k) := by decide +kernel
def am_T7 : u_T := fun k => match k with
  | 0 => ("GapLetterModel$Tongue", "year", "I", false)
  | 1 => ("GapLetterModel$Tongue", "things", "I", false)
  | 2 => ("GapLetterModel$Tongue", "sayings", "I", false)
  | 3 => ("GapLetterModel$Tongue", "words", "I", false)
  | 4 => ("GapLetterModel$Tongue", "coined", "I", false)
  | 5 => ("GapLetterModel$Tongue", "going", "I", false)
  | 6 => ("GapLetterModel$Tongue", "heard", "I", false)
  | 7 => ("GapLetterModel$Tongue", "old", "I", false)
  | 8 => ("GapLetterModel$Tongue", "names", "I", false)
  | 9 => ("GapLetterModel$Tongue", "parts", "[I", true)
  | 10 => ("GapLetterModel$Tongue", "part", "[I", true)
  | 11 => ("GapLetterModel$Tongue", "spelt", "[J", true)
  | 12 => ("GapLetterModel$Tongue", "newSpelt", "[J", true)
  | 13 => ("GapLetterModel$Tongue", "sound", "[J", true)
  | 14 => ("GapLetterModel$Tongue", "olds", "[J", true)
  | 15 => ("GapLetterModel$Tongue", "means", "[I", true)
  | 16 => ("GapLetterModel$Tongue", "newMeans", "[I", true)
  | 17 => ("GapLetterModel$Tongue", "letter", "[I", true)
  | 18 => ("GapLetterModel$Tongue", "day", "[I", true)
  | 19 => ("GapLetterModel$Tongue", "shunned", "[I", true)
  | 20 => ("GapLetterModel$Tongue", "name", "[J", true)
  | 21 => ("GapLetterModel$Tongue", "nameSort", "[I", true)
  | _ => ("GapLetterModel$Tongue", "numberOf", "[I", true)
def am_y7 : Nat → FieldType := fun k => match k with
  | 0 => .int
  | 1 => .int
  | 2 => .int
  | 3 => .int
  | 4 => .int
  | 5 => .int
  | 6 => .int
  | 7 => .int
  | 8 => .int
  | 9 => .array .int
  | 10 => .array .int
  | 11 => .array .long
  | 12 => .array .long
  | 13 => .array .long
  | 14 => .array .long
  | 15 => .array .int
  | 16 => .array .int
  | 17 => .array .int
  | 18 => .array .int
  | 19 => .array .int
  | 20 => .array .long
  | 21 => .array .int
  | _ => .array .int
theorem am_n7 : ∀ a, a < 23 → ∀ b, b < 23 → a ≠ b → (am_T7 a).2.1 ≠ (am_T7 b).2.1 := by decide +kernel
theorem am_p7 : ∀ k, k < 23 → parseFieldDescriptor (am_T7 k).2.2.1 = some (am_y7 k) := by decide +kernel
def am_T8 : u_T := fun k => match k with
  | 0 => ("GapLetterModel", "thrown", "I", false)
  | 1 => ("GapLetterModel", "trouble", "I", false)
  | 2 => ("GapLetterModel", "where", "I", false)
  | 3 => ("GapLetterModel", "tongue", "LGapLetterModel$Tongue;", false)
  | 4 => ("GapLetterModel", "read", "LGapLetterModel$Tongue;", false)
  | 5 => ("GapLetterModel", "tape", "[B", true)
  | 6 => ("GapLetterModel", "taped", "I", false)
  | 7 => ("GapLetterModel", "size", "I", false)
  | 8 => ("GapLetterModel", "spot", "I", false)
  | 9 => ("GapLetterModel", "sort", "I", false)
  | 10 => ("GapLetterModel", "place", "I", false)
  | 11 => ("GapLetterModel", "number", "I", false)
  | 12 => ("GapLetterModel", "fault", "I", false)
  | 13 => ("GapLetterModel", "wrongAt", "I", false)
  | 14 => ("GapLetterModel", "word", "J", false)
  | 15 => ("GapLetterModel", "lost", "I", false)
  | 16 => ("GapLetterModel", "made", "I", false)
  | 17 => ("GapLetterModel", "today", "I", false)
  | 18 => ("GapLetterModel", "acts", "I", false)
  | 19 => ("GapLetterModel", "marks", "I", false)
  | 20 => ("GapLetterModel", "past", "[I", true)
  | 21 => ("GapLetterModel", "kept", "[I", true)
  | 22 => ("GapLetterModel", "billLeft", "I", false)
  | 23 => ("GapLetterModel", "row", "[I", true)
  | 24 => ("GapLetterModel", "sayers", "[I", true)
  | 25 => ("GapLetterModel", "ends", "[I", true)
  | 26 => ("GapLetterModel", "setsNow", "J", false)
  | 27 => ("GapLetterModel", "yetNow", "J", false)
  | 28 => ("GapLetterModel", "saidNow", "J", false)
  | 29 => ("GapLetterModel", "seedThen", "I", false)
  | _ => ("GapLetterModel", "goneThen", "I", false)
def am_y8 : Nat → FieldType := fun k => match k with
  | 0 => .int
  | 1 => .int
  | 2 => .int
  | 3 => .object "GapLetterModel$Tongue"
  | 4 => .object "GapLetterModel$Tongue"
  | 5 => .array .byte
  | 6 => .int
  | 7 => .int
  | 8 => .int
  | 9 => .int
  | 10 => .int
  | 11 => .int
  | 12 => .int
  | 13 => .int
  | 14 => .long
  | 15 => .int
  | 16 => .int
  | 17 => .int
  | 18 => .int
  | 19 => .int
  | 20 => .array .int
  | 21 => .array .int
  | 22 => .int
  | 23 => .array .int
  | 24 => .array .int
  | 25 => .array .int
  | 26 => .long
  | 27 => .long
  | 28 => .long
  | 29 => .int
  | _ => .int
theorem am_n8 : ∀ a, a < 31 → ∀ b, b < 31 → a ≠ b → (am_T8 a).2.1 ≠ (am_T8 b).2.1 := by decide +kernel
theorem am_p8 : ∀ k, k < 31 → parseFieldDescriptor (am_T8 k).2.2.1 = some (am_y8 k) := by decide +kernel
def am_TE : u_T := fun _ => ("", "", "", false)
abbrev am_cl : List vw_C := [("GapLetter$Game", am_T0, 8), ("GapLetter$Now", am_T1, 3), ("GapLetter$Past", am_T2, 5), ("GapLetter$Teller", am_T3, 5), ("GapLetter$Tokens", am_T4, 7), ("GapLetter$Tongue", am_T5, 20), ("GapLetter", am_T6, 11), ("GapLetterModel$Tongue", am_T7, 23), ("GapLetterModel", am_T8, 31), ("java/util/NoSuchElementException", am_TE, 0)]
/-- the type of a field, by its class's number and its place -/
def am_fty (ci k : Nat) : FieldType := match ci with
  | 0 => am_y0 k
  | 1 => am_y1 k
  | 2 => am_y2 k
  | 3 => am_y3 k
  | 4 => am_y4 k
  | 5 => am_y5 k
  | 6 => am_y6 k
  | 7 => am_y7 k
  | 8 => am_y8 k
  | _ => .int
/-- what a new object holds -/
def am_def (ci : Nat) : List Value := match ci with
  | 0 => [.null, .null, .null, .null, .int 0, .int 0, .int 0, .int 0]
  | 1 => [.int 0, .int 0, .int 0]
  | 2 => [.null, .null, .int 0, .int 0, .int 0]
  | 3 => [.null, .null, .null, .int 0, .int 0]
  | 4 => [.null, .int 0, .int 0, .int 0, .int 0, .long 0, .int 0]
  | 5 => [.int 0, .int 0, .int 0, .int 0, .int 0, .int 0, .int 0, .int 0, .null, .null, .null, .null, .null, .null, .null, .null, .null, .null, .int 0, .null]
  | 6 => [.null, .null, .null, .null, .null, .null, .int 0, .int 0, .int 0, .int 0, .int 0]
  | 7 => [.int 0, .int 0, .int 0, .int 0, .int 0, .int 0, .int 0, .int 0, .int 0, .null, .null, .null, .null, .null, .null, .null, .null, .null, .null, .null, .null, .null, .null]
  | 8 => [.int 0, .int 0, .int 0, .null, .null, .null, .int 0, .int 0, .int 0, .int 0, .int 0, .int 0, .int 0, .int 0, .long 0, .int 0, .int 0, .int 0, .int 0, .int 0, .null, .null, .int 0, .null, .null, .null, .long 0, .long 0, .long 0, .int 0, .int 0]
  | _ => []
def am_n (ci : Nat) : Nat := match ci with
  | 0 => 8
  | 1 => 3
  | 2 => 5
  | 3 => 5
  | 4 => 7
  | 5 => 20
  | 6 => 11
  | 7 => 23
  | 8 => 31
  | _ => 0
/-- methods: class, name, descriptor, code, locals, what it returns, how many values it takes (its object too), its object's class -/
def am_ms0 : List (Nat × String × String × ByteArray × Nat × Option FieldType × Nat × Nat) := [(0, "law", "([I)Z", code, 7, (some (.boolean)), 1, 99),
  (1, "<init>", "()V", prog_1_method_1_code, 1, none, 1, 6),
  (1, "feed", "(IIIII)I", prog_1_method_2_code, 6, (some (.int)), 6, 6),
  (1, "putBytes", "(I)V", prog_1_method_3_code, 3, none, 2, 6),
  (1, "tongue", "(I)I", prog_1_method_4_code, 2, (some (.int)), 2, 6),
  (1, "refused", "(I)Z", prog_1_method_55_code, 2, (some (.boolean)), 2, 6),
  (1, "isLetter", "(I)Z", prog_1_method_63_code, 1, (some (.boolean)), 1, 99),
  (1, "bit", "(II)Z", prog_1_method_64_code, 2, (some (.boolean)), 2, 99),
  (1, "fault", "()I", prog_1_method_5_code, 1, (some (.int)), 1, 6),
  (1, "where", "()I", prog_1_method_6_code, 1, (some (.int)), 1, 6),
  (1, "gone", "()I", prog_1_method_7_code, 1, (some (.int)), 1, 6),
  (1, "ofTongue", "()I", prog_1_method_56_code, 1, (some (.int)), 1, 6),
  (1, "word", "(II)I", prog_1_method_8_code, 3, (some (.int)), 3, 6),
  (1, "isWord", "(I)Z", prog_1_method_61_code, 2, (some (.boolean)), 2, 6),
  (1, "canBeSaid", "(I)Z", prog_1_method_65_code, 2, (some (.boolean)), 2, 6),
  (1, "sayableNow", "()I", prog_1_method_66_code, 1, (some (.int)), 1, 6),
  (1, "thing", "(II)I", prog_1_method_9_code, 5, (some (.int)), 3, 6),
  (1, "isThing", "(I)Z", prog_1_method_62_code, 2, (some (.boolean)), 2, 6),
  (1, "saying", "(I)I", prog_1_method_10_code, 2, (some (.int)), 2, 6),
  (1, "ofSaying", "(I)I", prog_1_method_59_code, 2, (some (.int)), 2, 6),
  (1, "dumbIn", "(I)I", prog_1_method_11_code, 2, (some (.int)), 2, 6),
  (1, "said", "()I", prog_1_method_12_code, 1, (some (.int)), 1, 6),
  (1, "longest", "()I", prog_1_method_13_code, 6, (some (.int)), 1, 6),
  (1, "users", "(I)I", prog_1_method_14_code, 2, (some (.int)), 2, 6),
  (1, "ofLetter", "(I)I", prog_1_method_58_code, 2, (some (.int)), 2, 6),
  (1, "ofTongueAnd", "(Z)I", prog_1_method_57_code, 2, (some (.int)), 2, 6),
  (1, "saidIf", "(I)I", prog_1_method_15_code, 2, (some (.int)), 2, 6),
  (1, "thingsWithout", "(I)I", prog_1_method_67_code, 2, (some (.int)), 2, 6),
  (1, "lasts", "(I)I", prog_1_method_16_code, 4, (some (.int)), 2, 6),
  (1, "saidOn", "(I)I", prog_1_method_17_code, 2, (some (.int)), 2, 6),
  (1, "goneIn", "(I)I", prog_1_method_68_code, 4, (some (.int)), 2, 6),
  (1, "longestSaying", "()I", prog_1_method_18_code, 6, (some (.int)), 1, 6),
  (1, "lettersOf", "(I)I", prog_1_method_19_code, 5, (some (.int)), 2, 6),
  (1, "rhymes", "(II)I", prog_1_method_20_code, 6, (some (.int)), 3, 6),
  (1, "which", "()I", prog_1_method_21_code, 1, (some (.int)), 1, 6),
  (1, "bill", "()I", prog_1_method_22_code, 1, (some (.int)), 1, 6),
  (1, "billLeaves", "()I", prog_1_method_23_code, 2, (some (.int)), 1, 6),
  (1, "judge", "(I)I", prog_1_method_24_code, 2, (some (.int)), 2, 6),
  (1, "worst", "()I", prog_1_method_25_code, 1, (some (.int)), 1, 6),
  (1, "kindest", "()I", prog_1_method_26_code, 1, (some (.int)), 1, 6)]
def am_ms1 : List (Nat × String × String × ByteArray × Nat × Option FieldType × Nat × Nat) := [(1, "dumb", "()I", prog_1_method_27_code, 1, (some (.int)), 1, 6),
  (1, "hinges", "(I)I", prog_1_method_28_code, 5, (some (.int)), 2, 6),
  (1, "again", "()I", prog_1_method_29_code, 1, (some (.int)), 1, 6),
  (1, "rarest", "()I", prog_1_method_30_code, 6, (some (.int)), 1, 6),
  (1, "readings", "(II)I", prog_1_method_31_code, 3, (some (.int)), 3, 6),
  (1, "ways", "(I)I", prog_1_method_32_code, 2, (some (.int)), 2, 6),
  (1, "stoodOut", "()I", prog_1_method_33_code, 3, (some (.int)), 1, 6),
  (1, "twins", "(I)I", prog_1_method_34_code, 2, (some (.int)), 2, 6),
  (1, "wins", "(I)I", prog_1_method_35_code, 2, (some (.int)), 2, 6),
  (1, "ofSayable", "(I)I", prog_1_method_60_code, 2, (some (.int)), 2, 6),
  (1, "opening", "()I", prog_1_method_36_code, 2, (some (.int)), 1, 6),
  (1, "answer", "(I)I", prog_1_method_37_code, 2, (some (.int)), 2, 6),
  (1, "longestChain", "()I", prog_1_method_38_code, 1, (some (.int)), 1, 6),
  (1, "answers", "(I)I", prog_1_method_39_code, 2, (some (.int)), 2, 6),
  (1, "yet", "(IIZ)J", prog_1_method_40_code, 5, (some (.long)), 4, 6),
  (1, "mayGoByChance", "(I)Z", prog_1_method_70_code, 2, (some (.boolean)), 2, 6),
  (1, "lettersLeft", "()I", prog_1_method_69_code, 1, (some (.int)), 1, 6),
  (1, "mean", "(IZ)J", prog_1_method_41_code, 4, (some (.long)), 3, 6),
  (1, "silence", "(I)I", prog_1_method_42_code, 5, (some (.int)), 2, 6),
  (1, "saidBehind", "(II)I", prog_1_method_43_code, 3, (some (.int)), 3, 6),
  (1, "goesAt", "(II)I", prog_1_method_44_code, 4, (some (.int)), 3, 6),
  (1, "lose", "(I)Z", prog_1_method_45_code, 2, (some (.boolean)), 2, 6),
  (1, "find", "(I)Z", prog_1_method_46_code, 2, (some (.boolean)), 2, 6),
  (1, "coin", "(I)Z", prog_1_method_47_code, 2, (some (.boolean)), 2, 6),
  (1, "days", "(I)I", prog_1_method_48_code, 4, (some (.int)), 2, 6),
  (1, "undo", "()Z", prog_1_method_49_code, 1, (some (.boolean)), 1, 6),
  (1, "mark", "()I", prog_1_method_50_code, 1, (some (.int)), 1, 6),
  (1, "back", "(I)Z", prog_1_method_51_code, 2, (some (.boolean)), 2, 6),
  (1, "size", "(I)I", prog_1_method_53_code, 2, (some (.int)), 2, 6),
  (1, "trouble", "()I", prog_1_method_54_code, 1, (some (.int)), 1, 6),
  (1, "led", "(I)I", prog_1_method_52_code, 5, (some (.int)), 2, 6),
  (2, "count", "(LGapLetter$Tongue;IIII)I", prog_2_method_2_code, 5, (some (.int)), 5, 99),
  (2, "countFrom", "(LGapLetter$Tongue;IIIII)I", prog_2_method_3_code, 8, (some (.int)), 6, 99),
  (2, "sets", "(II)I", prog_2_method_4_code, 4, (some (.int)), 2, 99),
  (2, "lowestTerms", "(IIZ)J", prog_2_method_5_code, 4, (some (.long)), 3, 99),
  (2, "commonDivisor", "(II)I", prog_2_method_6_code, 6, (some (.int)), 2, 99),
  (2, "isSeed", "(I)Z", prog_2_method_7_code, 1, (some (.boolean)), 1, 99),
  (2, "next", "(I)I", prog_2_method_8_code, 1, (some (.int)), 1, 99),
  (2, "pick", "(II)I", prog_2_method_9_code, 5, (some (.int)), 2, 99),
  (2, "goneBehind", "(III)I", prog_2_method_10_code, 6, (some (.int)), 3, 99)]
def am_ms2 : List (Nat × String × String × ByteArray × Nat × Option FieldType × Nat × Nat) := [(3, "lettersLeft", "(LGapLetter$Tongue;)I", prog_3_method_2_code, 3, (some (.int)), 1, 99),
  (3, "bestWord", "(LGapLetter$Tongue;)I", prog_3_method_4_code, 5, (some (.int)), 1, 99),
  (3, "leftAtMost", "(LGapLetter$Tongue;I)I", prog_3_method_3_code, 4, (some (.int)), 2, 99),
  (3, "firstAgainst", "(LGapLetter$Tongue;I)I", prog_3_method_5_code, 3, (some (.int)), 2, 99),
  (4, "<init>", "()V", prog_4_method_1_code, 1, none, 1, 0),
  (4, "forget", "()V", prog_4_method_2_code, 1, none, 1, 0),
  (4, "lay", "(LGapLetter$Tongue;I)V", prog_4_method_3_code, 5, none, 3, 0),
  (4, "isWon", "(II)Z", prog_4_method_5_code, 3, (some (.boolean)), 3, 0),
  (4, "solve", "()V", prog_4_method_7_code, 2, none, 1, 0),
  (4, "wordsThatWinBehind", "(I)I", prog_4_method_8_code, 5, (some (.int)), 2, 0),
  (4, "lastsThatWin", "(II)I", prog_4_method_9_code, 5, (some (.int)), 3, 0),
  (4, "firstWon", "(II)I", prog_4_method_6_code, 4, (some (.int)), 3, 0),
  (4, "answersTo", "(I)I", prog_4_method_4_code, 2, (some (.int)), 2, 0),
  (4, "mostInARow", "()I", prog_4_method_10_code, 1, (some (.int)), 1, 0),
  (4, "findLongestRow", "()I", prog_4_method_11_code, 3, (some (.int)), 1, 0),
  (4, "endingsOf", "(I)I", prog_4_method_12_code, 5, (some (.int)), 2, 0),
  (5, "extreme", "(LGapLetter$Tongue;IIZ)I", prog_5_method_2_code, 8, (some (.int)), 4, 99),
  (5, "fewestSilencing", "(LGapLetter$Tongue;II)I", prog_5_method_3_code, 5, (some (.int)), 3, 99),
  (5, "firstSilencing", "(LGapLetter$Tongue;IIII)I", prog_5_method_4_code, 7, (some (.int)), 5, 99),
  (5, "fewestCoined", "(LGapLetter$Tongue;II)I", prog_5_method_5_code, 7, (some (.int)), 3, 99),
  (6, "<init>", "()V", prog_6_method_1_code, 1, none, 1, 1),
  (6, "begin", "(I)V", prog_6_method_2_code, 2, none, 2, 1),
  (6, "copy", "(LGapLetter$Now;)V", prog_6_method_3_code, 2, none, 2, 1),
  (7, "read", "(LGapLetter$Tongue;II)I", prog_7_method_2_code, 5, (some (.int)), 3, 99),
  (7, "countWays", "(LGapLetter$Tongue;I)I", prog_7_method_3_code, 4, (some (.int)), 2, 99),
  (7, "firstAlike", "(LGapLetter$Tongue;I)I", prog_7_method_4_code, 4, (some (.int)), 2, 99),
  (8, "<init>", "()V", prog_8_method_1_code, 2, none, 1, 2),
  (8, "forget", "()V", prog_8_method_2_code, 1, none, 1, 2),
  (8, "keep", "(LGapLetter$Now;)V", prog_8_method_5_code, 2, none, 2, 2),
  (8, "kept", "()I", prog_8_method_3_code, 1, (some (.int)), 1, 2),
  (8, "takeBack", "(LGapLetter$Now;)V", prog_8_method_6_code, 2, none, 2, 2),
  (8, "marks", "()I", prog_8_method_4_code, 1, (some (.int)), 1, 2),
  (8, "setMark", "(LGapLetter$Now;)I", prog_8_method_7_code, 2, (some (.int)), 2, 2),
  (8, "goBack", "(ILGapLetter$Now;)V", prog_8_method_8_code, 3, none, 3, 2),
  (9, "of", "(Ljava/lang/String;)J", prog_9_method_2_code, 4, (some (.long)), 1, 99),
  (9, "join", "(JI)J", prog_9_method_3_code, 3, (some (.long)), 2, 99),
  (9, "length", "(J)I", prog_9_method_4_code, 4, (some (.int)), 1, 99),
  (9, "last", "(J)I", prog_9_method_7_code, 2, (some (.int)), 1, 99),
  (9, "letterFromEnd", "(JI)I", prog_9_method_5_code, 3, (some (.int)), 2, 99),
  (9, "bits", "(J)I", prog_9_method_8_code, 5, (some (.int)), 1, 99)]
def am_ms3 : List (Nat × String × String × ByteArray × Nat × Option FieldType × Nat × Nat) := [(9, "ending", "(JI)J", prog_9_method_9_code, 3, (some (.long)), 2, 99),
  (9, "without", "(JI)J", prog_9_method_10_code, 7, (some (.long)), 2, 99),
  (9, "first", "(J)I", prog_9_method_6_code, 2, (some (.int)), 1, 99),
  (10, "<init>", "()V", prog_10_method_1_code, 1, none, 1, 3),
  (10, "tell", "([BI)I", prog_10_method_2_code, 5, (some (.int)), 3, 3),
  (10, "takeLine", "()Z", prog_10_method_7_code, 2, (some (.boolean)), 1, 3),
  (10, "keyOf", "(J)I", prog_10_method_22_code, 4, (some (.int)), 2, 3),
  (10, "faulty", "(I)Z", prog_10_method_5_code, 2, (some (.boolean)), 2, 3),
  (10, "takeTongue", "()Z", prog_10_method_9_code, 1, (some (.boolean)), 1, 3),
  (10, "takeKey", "(I)Z", prog_10_method_16_code, 2, (some (.boolean)), 2, 3),
  (10, "isWhole", "(I)Z", prog_10_method_17_code, 2, (some (.boolean)), 2, 3),
  (10, "isFull", "(I)Z", prog_10_method_8_code, 2, (some (.boolean)), 2, 3),
  (10, "takeThing", "()Z", prog_10_method_10_code, 1, (some (.boolean)), 1, 3),
  (10, "isNewName", "()Z", prog_10_method_20_code, 1, (some (.boolean)), 1, 3),
  (10, "isName", "()Z", prog_10_method_19_code, 1, (some (.boolean)), 1, 3),
  (10, "takeSaying", "()Z", prog_10_method_11_code, 2, (some (.boolean)), 1, 3),
  (10, "isThingName", "()Z", prog_10_method_21_code, 1, (some (.boolean)), 1, 3),
  (10, "takeMeaning", "(Z)Z", prog_10_method_12_code, 5, (some (.boolean)), 2, 3),
  (10, "isSpelling", "()Z", prog_10_method_18_code, 1, (some (.boolean)), 1, 3),
  (10, "takeGoing", "()Z", prog_10_method_13_code, 2, (some (.boolean)), 1, 3),
  (10, "takeOld", "()Z", prog_10_method_15_code, 1, (some (.boolean)), 1, 3),
  (10, "takeHearing", "(Z)Z", prog_10_method_14_code, 2, (some (.boolean)), 2, 3),
  (10, "takeSemicolon", "()Z", prog_10_method_6_code, 1, (some (.boolean)), 1, 3),
  (10, "place", "()I", prog_10_method_3_code, 1, (some (.int)), 1, 3),
  (10, "handOver", "(LGapLetter$Tongue;)LGapLetter$Tongue;", prog_10_method_4_code, 3, (some (.object "GapLetter$Tongue")), 2, 3),
  (11, "<init>", "()V", prog_11_method_1_code, 1, none, 1, 4),
  (11, "start", "([BI)V", prog_11_method_2_code, 3, none, 3, 4),
  (11, "advance", "()V", prog_11_method_3_code, 1, none, 1, 4),
  (11, "at", "(I)I", prog_11_method_7_code, 2, (some (.int)), 2, 4),
  (11, "isSmallLetter", "(I)Z", prog_11_method_8_code, 1, (some (.boolean)), 1, 99),
  (11, "takeWord", "()V", prog_11_method_4_code, 1, none, 1, 4),
  (11, "isDigit", "(I)Z", prog_11_method_9_code, 1, (some (.boolean)), 1, 99),
  (11, "takeWhole", "()V", prog_11_method_5_code, 1, none, 1, 4),
  (11, "takeSign", "()V", prog_11_method_6_code, 2, none, 1, 4),
  (12, "<init>", "()V", prog_12_method_1_code, 1, none, 1, 5),
  (12, "clear", "()V", prog_12_method_2_code, 1, none, 1, 5),
  (12, "hasName", "(J)Z", prog_12_method_13_code, 4, (some (.boolean)), 2, 5),
  (12, "thingNamed", "(J)I", prog_12_method_14_code, 4, (some (.int)), 2, 5),
  (12, "addThing", "(J)V", prog_12_method_3_code, 3, none, 2, 5),
  (12, "addSaying", "(J)V", prog_12_method_4_code, 3, none, 2, 5)]
def am_ms4 : List (Nat × String × String × ByteArray × Nat × Option FieldType × Nat × Nat) := [(12, "addPart", "(I)V", prog_12_method_5_code, 3, none, 2, 5),
  (12, "hasSpelling", "(J)Z", prog_12_method_15_code, 4, (some (.boolean)), 2, 5),
  (12, "addCoined", "(JI)V", prog_12_method_7_code, 4, none, 3, 5),
  (12, "putWord", "(IJI)V", prog_12_method_8_code, 5, none, 4, 5),
  (12, "addWord", "(JI)V", prog_12_method_6_code, 4, none, 3, 5),
  (12, "hasGoing", "(I)Z", prog_12_method_16_code, 2, (some (.boolean)), 2, 5),
  (12, "addGoing", "(II)V", prog_12_method_9_code, 3, none, 3, 5),
  (12, "addOld", "(J)V", prog_12_method_11_code, 3, none, 2, 5),
  (12, "addHearing", "(JZ)V", prog_12_method_10_code, 4, none, 3, 5),
  (12, "settle", "()V", prog_12_method_12_code, 4, none, 1, 5),
  (12, "allWords", "()I", prog_12_method_17_code, 1, (some (.int)), 1, 5),
  (12, "goingOn", "(I)I", prog_12_method_24_code, 4, (some (.int)), 2, 5),
  (12, "sayable", "(II)I", prog_12_method_19_code, 5, (some (.int)), 3, 5),
  (12, "spoken", "(I)I", prog_12_method_18_code, 2, (some (.int)), 2, 5),
  (12, "shortestOf", "(II)I", prog_12_method_21_code, 7, (some (.int)), 3, 5),
  (12, "sayingLength", "(II)I", prog_12_method_22_code, 6, (some (.int)), 3, 5),
  (12, "dumbPart", "(II)I", prog_12_method_23_code, 4, (some (.int)), 3, 5),
  (12, "thingsBy", "(I)I", prog_12_method_20_code, 4, (some (.int)), 2, 5),
  (13, "<init>", "()V", prog_14_method_1_code, 1, none, 1, 8),
  (13, "thrown", "()I", prog_14_method_2_code, 1, (some (.int)), 1, 8),
  (13, "feed", "(IIIII)I", prog_14_method_43_code, 8, (some (.int)), 6, 8),
  (13, "tongue", "(I)I", prog_14_method_44_code, 2, (some (.int)), 2, 8),
  (13, "refused", "(I)I", prog_14_method_3_code, 2, (some (.int)), 2, 8),
  (13, "goesOn", "()V", prog_14_method_21_code, 3, none, 1, 8),
  (13, "byteAt", "(I)I", prog_14_method_17_code, 2, (some (.int)), 2, 8),
  (13, "isLetter", "(I)Z", prog_14_method_18_code, 1, (some (.boolean)), 1, 99),
  (13, "isDigit", "(I)Z", prog_14_method_19_code, 1, (some (.boolean)), 1, 99),
  (13, "readAll", "()V", prog_14_method_34_code, 2, none, 1, 8),
  (13, "readLine", "()V", prog_14_method_35_code, 1, none, 1, 8),
  (13, "isWord", "(Ljava/lang/String;)Z", prog_14_method_23_code, 2, (some (.boolean)), 2, 8),
  (13, "packed", "(Ljava/lang/String;)J", prog_14_method_20_code, 4, (some (.long)), 1, 99),
  (13, "readTongue", "()V", prog_14_method_36_code, 2, none, 1, 8),
  (13, "flaw", "(I)V", prog_14_method_22_code, 2, none, 2, 8),
  (13, "readPart", "(Ljava/lang/String;II)I", prog_14_method_27_code, 4, (some (.int)), 4, 8),
  (13, "needs", "(Ljava/lang/String;)V", prog_14_method_25_code, 2, none, 2, 8),
  (13, "readWhole", "(II)I", prog_14_method_26_code, 4, (some (.int)), 3, 8),
  (13, "in", "(III)Z", prog_14_method_7_code, 3, (some (.boolean)), 3, 99),
  (13, "readThing", "()V", prog_14_method_37_code, 3, none, 1, 8),
  (13, "lineBegins", "(II)V", prog_14_method_30_code, 3, none, 3, 8),
  (13, "readFresh", "()J", prog_14_method_31_code, 3, (some (.long)), 1, 8)]
def am_ms5 : List (Nat × String × String × ByteArray × Nat × Option FieldType × Nat × Nat) := [(13, "isName", "()Z", prog_14_method_29_code, 1, (some (.boolean)), 1, 8),
  (13, "names", "(JII)V", prog_14_method_32_code, 5, none, 4, 8),
  (13, "readSaying", "()V", prog_14_method_38_code, 7, none, 1, 8),
  (13, "knownThing", "()I", prog_14_method_33_code, 2, (some (.int)), 1, 8),
  (13, "eats", "(I)Z", prog_14_method_24_code, 3, (some (.boolean)), 2, 8),
  (13, "readSpelt", "(Z)V", prog_14_method_39_code, 5, none, 2, 8),
  (13, "readWord", "()J", prog_14_method_28_code, 3, (some (.long)), 1, 8),
  (13, "readGone", "()V", prog_14_method_40_code, 3, none, 1, 8),
  (13, "readSound", "(I)V", prog_14_method_41_code, 4, none, 2, 8),
  (13, "readOld", "()V", prog_14_method_42_code, 3, none, 1, 8),
  (13, "good", "(I)I", prog_14_method_5_code, 2, (some (.int)), 2, 8),
  (13, "fault", "()I", prog_14_method_45_code, 1, (some (.int)), 1, 8),
  (13, "where", "()I", prog_14_method_46_code, 1, (some (.int)), 1, 8),
  (13, "gone", "()I", prog_14_method_55_code, 1, (some (.int)), 1, 8),
  (13, "word", "(II)I", prog_14_method_56_code, 3, (some (.int)), 3, 8),
  (13, "isSpelt", "(I)Z", prog_14_method_49_code, 2, (some (.boolean)), 2, 8),
  (13, "lengthOf", "(J)I", prog_14_method_12_code, 5, (some (.int)), 1, 99),
  (13, "canBe", "(III)Z", prog_14_method_51_code, 4, (some (.boolean)), 4, 8),
  (13, "may", "(II)Z", prog_14_method_50_code, 3, (some (.boolean)), 3, 8),
  (13, "bit", "(II)Z", prog_14_method_8_code, 2, (some (.boolean)), 2, 99),
  (13, "inLetters", "(J)I", prog_14_method_13_code, 5, (some (.int)), 1, 99),
  (13, "thing", "(II)I", prog_14_method_58_code, 4, (some (.int)), 3, 8),
  (13, "isThing", "(I)Z", prog_14_method_47_code, 2, (some (.boolean)), 2, 8),
  (13, "shortest", "(III)I", prog_14_method_52_code, 6, (some (.int)), 4, 8),
  (13, "wordsFor", "(I)I", prog_14_method_57_code, 4, (some (.int)), 2, 8),
  (13, "bits", "(I)I", prog_14_method_9_code, 3, (some (.int)), 1, 99),
  (13, "saying", "(I)I", prog_14_method_60_code, 2, (some (.int)), 2, 8),
  (13, "isSaying", "(I)Z", prog_14_method_48_code, 2, (some (.boolean)), 2, 8),
  (13, "longOf", "(I)I", prog_14_method_59_code, 5, (some (.int)), 2, 8),
  (13, "longestSaying", "()I", prog_14_method_61_code, 3, (some (.int)), 1, 8),
  (13, "dumbIn", "(I)I", prog_14_method_62_code, 2, (some (.int)), 2, 8),
  (13, "dumbPart", "(II)I", prog_14_method_54_code, 5, (some (.int)), 3, 8),
  (13, "saidBy", "(II)I", prog_14_method_53_code, 5, (some (.int)), 3, 8),
  (13, "said", "()I", prog_14_method_63_code, 1, (some (.int)), 1, 8),
  (13, "longest", "()I", prog_14_method_64_code, 3, (some (.int)), 1, 8),
  (13, "users", "(I)I", prog_14_method_66_code, 5, (some (.int)), 2, 8),
  (13, "refusesLetter", "(I)I", prog_14_method_65_code, 2, (some (.int)), 2, 8),
  (13, "saidIf", "(I)I", prog_14_method_67_code, 3, (some (.int)), 2, 8),
  (13, "lasts", "(I)I", prog_14_method_68_code, 4, (some (.int)), 2, 8),
  (13, "saidOn", "(I)I", prog_14_method_69_code, 4, (some (.int)), 2, 8)]
def am_ms6 : List (Nat × String × String × ByteArray × Nat × Option FieldType × Nat × Nat) := [(13, "lettersOf", "(I)I", prog_14_method_70_code, 4, (some (.int)), 2, 8),
  (13, "rhymes", "(II)I", prog_14_method_71_code, 7, (some (.int)), 3, 8),
  (13, "which", "()I", prog_14_method_74_code, 1, (some (.int)), 1, 8),
  (13, "fitting", "()I", prog_14_method_73_code, 3, (some (.int)), 1, 8),
  (13, "wrongSound", "(I)I", prog_14_method_72_code, 3, (some (.int)), 2, 8),
  (13, "bill", "()I", prog_14_method_76_code, 1, (some (.int)), 1, 8),
  (13, "toBill", "()I", prog_14_method_75_code, 7, (some (.int)), 1, 8),
  (13, "billLeaves", "()I", prog_14_method_77_code, 1, (some (.int)), 1, 8),
  (13, "judge", "(I)I", prog_14_method_78_code, 3, (some (.int)), 2, 8),
  (13, "worst", "()I", prog_14_method_80_code, 1, (some (.int)), 1, 8),
  (13, "extreme", "(Z)I", prog_14_method_79_code, 6, (some (.int)), 2, 8),
  (13, "kindest", "()I", prog_14_method_81_code, 1, (some (.int)), 1, 8),
  (13, "dumb", "()I", prog_14_method_85_code, 4, (some (.int)), 1, 8),
  (13, "firstSet", "(I)V", prog_14_method_83_code, 3, none, 2, 8),
  (13, "setOf", "(I)I", prog_14_method_82_code, 4, (some (.int)), 2, 8),
  (13, "nextSet", "(I)Z", prog_14_method_84_code, 4, (some (.boolean)), 2, 8),
  (13, "hinges", "(I)I", prog_14_method_86_code, 4, (some (.int)), 2, 8),
  (13, "again", "()I", prog_14_method_87_code, 3, (some (.int)), 1, 8),
  (13, "rarest", "()I", prog_14_method_88_code, 4, (some (.int)), 1, 8),
  (13, "readings", "(II)I", prog_14_method_91_code, 4, (some (.int)), 3, 8),
  (13, "readsAs", "(II)I", prog_14_method_89_code, 5, (some (.int)), 3, 8),
  (13, "without", "(JI)J", prog_14_method_16_code, 8, (some (.long)), 2, 99),
  (13, "ways", "(I)I", prog_14_method_92_code, 3, (some (.int)), 2, 8),
  (13, "waysBy", "(I)I", prog_14_method_90_code, 4, (some (.int)), 2, 8),
  (13, "stoodOut", "()I", prog_14_method_93_code, 3, (some (.int)), 1, 8),
  (13, "twins", "(I)I", prog_14_method_94_code, 5, (some (.int)), 2, 8),
  (13, "wins", "(I)I", prog_14_method_100_code, 2, (some (.int)), 2, 8),
  (13, "isSaid", "(I)Z", prog_14_method_99_code, 2, (some (.boolean)), 2, 8),
  (13, "plays", "()V", prog_14_method_98_code, 5, none, 1, 8),
  (13, "allSaid", "()I", prog_14_method_95_code, 3, (some (.int)), 1, 8),
  (13, "winsIn", "(III)Z", prog_14_method_97_code, 5, (some (.boolean)), 4, 8),
  (13, "follows", "(II)Z", prog_14_method_96_code, 3, (some (.boolean)), 3, 8),
  (13, "lastOf", "(J)I", prog_14_method_14_code, 2, (some (.int)), 1, 99),
  (13, "firstOf", "(J)I", prog_14_method_15_code, 2, (some (.int)), 1, 99),
  (13, "opening", "()I", prog_14_method_101_code, 2, (some (.int)), 1, 8),
  (13, "answer", "(I)I", prog_14_method_102_code, 3, (some (.int)), 2, 8),
  (13, "answers", "(I)I", prog_14_method_103_code, 4, (some (.int)), 2, 8),
  (13, "longestChain", "()I", prog_14_method_104_code, 8, (some (.int)), 1, 8),
  (13, "yet", "(IIZ)J", prog_14_method_108_code, 5, (some (.long)), 4, 8),
  (13, "refusesChance", "(ZI)I", prog_14_method_107_code, 3, (some (.int)), 3, 8)]
def am_ms7 : List (Nat × String × String × ByteArray × Nat × Option FieldType × Nat × Nat) := [(13, "letters", "()I", prog_14_method_106_code, 1, (some (.int)), 1, 8),
  (13, "chances", "(II)V", prog_14_method_105_code, 6, none, 3, 8),
  (13, "fraction", "(JJZ)J", prog_14_method_11_code, 6, (some (.long)), 4, 8),
  (13, "common", "(JJ)J", prog_14_method_10_code, 10, (some (.long)), 2, 99),
  (13, "mean", "(IZ)J", prog_14_method_109_code, 4, (some (.long)), 3, 8),
  (13, "silence", "(I)I", prog_14_method_113_code, 4, (some (.int)), 2, 8),
  (13, "refusesLosses", "(III)I", prog_14_method_112_code, 4, (some (.int)), 4, 8),
  (13, "goesAll", "(II)I", prog_14_method_111_code, 5, (some (.int)), 3, 8),
  (13, "goesNext", "()I", prog_14_method_110_code, 3, (some (.int)), 1, 8),
  (13, "saidBehind", "(II)I", prog_14_method_114_code, 4, (some (.int)), 3, 8),
  (13, "goesAt", "(II)I", prog_14_method_115_code, 4, (some (.int)), 3, 8),
  (13, "lose", "(I)Z", prog_14_method_120_code, 2, (some (.boolean)), 2, 8),
  (13, "changes", "(IZ)Z", prog_14_method_119_code, 4, (some (.boolean)), 3, 8),
  (13, "denied", "(I)Z", prog_14_method_4_code, 2, (some (.boolean)), 2, 8),
  (13, "remembers", "()V", prog_14_method_116_code, 2, none, 1, 8),
  (13, "writes", "([II)V", prog_14_method_117_code, 3, none, 3, 8),
  (13, "granted", "()Z", prog_14_method_6_code, 1, (some (.boolean)), 1, 8),
  (13, "find", "(I)Z", prog_14_method_121_code, 2, (some (.boolean)), 2, 8),
  (13, "coin", "(I)Z", prog_14_method_122_code, 2, (some (.boolean)), 2, 8),
  (13, "days", "(I)I", prog_14_method_123_code, 4, (some (.int)), 2, 8),
  (13, "undo", "()Z", prog_14_method_124_code, 1, (some (.boolean)), 1, 8),
  (13, "takes", "([II)V", prog_14_method_118_code, 3, none, 3, 8),
  (13, "mark", "()I", prog_14_method_125_code, 1, (some (.int)), 1, 8),
  (13, "back", "(I)Z", prog_14_method_126_code, 2, (some (.boolean)), 2, 8),
  (13, "led", "(I)I", prog_14_method_127_code, 4, (some (.int)), 2, 8),
  (13, "size", "(I)I", prog_14_method_128_code, 2, (some (.int)), 2, 8),
  (13, "trouble", "()I", prog_14_method_129_code, 1, (some (.int)), 1, 8),
  (14, "<init>", "()V", prog_15_method_1_code, 1, none, 1, 7),
  (14, "find", "(J)I", prog_15_method_2_code, 4, (some (.int)), 2, 7),
  (14, "isSpelt", "(J)Z", prog_15_method_3_code, 4, (some (.boolean)), 2, 7),
  (14, "isGoing", "(I)Z", prog_15_method_4_code, 3, (some (.boolean)), 2, 7),
  (14, "goesOn", "(I)I", prog_15_method_8_code, 4, (some (.int)), 2, 7),
  (14, "all", "()I", prog_15_method_5_code, 1, (some (.int)), 1, 7),
  (14, "spelt", "(I)J", prog_15_method_6_code, 2, (some (.long)), 2, 7),
  (14, "means", "(I)I", prog_15_method_7_code, 2, (some (.int)), 2, 7),
  (15, "bitCount", "(I)I", prog_20_method_49_code, 1, (some (.int)), 1, 99),
  (17, "fill", "([II)V", prog_29_method_103_code, 4, none, 2, 99)]
def am_ms : List (Nat × String × String × ByteArray × Nat × Option FieldType × Nat × Nat) := am_ms0 ++ (am_ms1 ++ (am_ms2 ++ (am_ms3 ++ (am_ms4 ++ (am_ms5 ++ (am_ms6 ++ (am_ms7)))))))
def am_mr (y : Nat) : Nat × String × String × ByteArray × Nat × Option FieldType × Nat × Nat := am_ms.getD y (0, "", "", ⟨#[]⟩, 0, none, 0, 99)
def am_ow (y : Nat) : Nat := (am_mr y).1
def am_nm (y : Nat) : MethodName := ⟨am_cn (am_mr y).1, (am_mr y).2.1, (am_mr y).2.2.1⟩
def am_by (y : Nat) : ByteArray := (am_mr y).2.2.2.1
def am_ml (y : Nat) : Nat := (am_mr y).2.2.2.2.1
def am_rt (y : Nat) : Option FieldType := (am_mr y).2.2.2.2.2.1
def am_na (y : Nat) : Nat := (am_mr y).2.2.2.2.2.2.1
def am_rc (y : Nat) : Nat := (am_mr y).2.2.2.2.2.2.2
