/-! ===== BEGIN printed: names, fields, word lists, decode rows ===== -/
def RX0 : String := "WordPad$Book"
def TX0 : u_T := fun k => match k with
  | 0 => ("WordPad$Book", "tags", "LWordPad$Names;", true)
  | 1 => ("WordPad$Book", "words", "LWordPad$Names;", true)
  | 2 => ("WordPad$Book", "weights", "LWordPad$Row;", true)
  | 3 => ("WordPad$Book", "tagOf", "LWordPad$Row;", true)
  | 4 => ("WordPad$Book", "keys", "LWordPad$Keys;", true)
  | _ => ("WordPad$Book", "boosts", "LWordPad$Boosts;", true)
def tyX0 : Nat → FieldType := fun k => match k with
  | 0 => .object "WordPad$Names"
  | 1 => .object "WordPad$Names"
  | 2 => .object "WordPad$Row"
  | 3 => .object "WordPad$Row"
  | 4 => .object "WordPad$Keys"
  | _ => .object "WordPad$Boosts"
theorem nmX0 : ∀ a, a < 6 → ∀ b, b < 6 → a ≠ b → (TX0 a).2.1 ≠ (TX0 b).2.1 := by decide +kernel
theorem tyX0_ok : ∀ k, k < 6 → parseFieldDescriptor (TX0 k).2.2.1 = some (tyX0 k) := by decide +kernel
abbrev cX0_init : ByteArray := prog_2_method_1_code
def yX0_init : MethodName := ⟨RX0, "<init>", "()V"⟩
abbrev cX0_clear : ByteArray := prog_2_method_2_code
def yX0_clear : MethodName := ⟨RX0, "clear", "()V"⟩
abbrev cX0_hasWord : ByteArray := prog_2_method_3_code
def yX0_hasWord : MethodName := ⟨RX0, "hasWord", "(I)Z"⟩
abbrev cX0_addWord : ByteArray := prog_2_method_4_code
def yX0_addWord : MethodName := ⟨RX0, "addWord", "(LWordPad$Row;)I"⟩
abbrev cX0_allWeights : ByteArray := prog_2_method_5_code
def yX0_allWeights : MethodName := ⟨RX0, "allWeights", "()I"⟩
abbrev cX0_fade : ByteArray := prog_2_method_6_code
def yX0_fade : MethodName := ⟨RX0, "fade", "()V"⟩
abbrev cX0_wordsThatBegin : ByteArray := prog_2_method_7_code
def yX0_wordsThatBegin : MethodName := ⟨RX0, "wordsThatBegin", "(LWordPad$Row;)I"⟩
abbrev cX0_weightBehind : ByteArray := prog_2_method_8_code
def yX0_weightBehind : MethodName := ⟨RX0, "weightBehind", "(LWordPad$Row;I)I"⟩
abbrev cX0_trieNodes : ByteArray := prog_2_method_9_code
def yX0_trieNodes : MethodName := ⟨RX0, "trieNodes", "()I"⟩
def RX1 : String := "WordPad$Boosts"
def TX1 : u_T := fun k => match k with
  | 0 => ("WordPad$Boosts", "tags", "LWordPad$Row;", true)
  | 1 => ("WordPad$Boosts", "sumStarts", "LWordPad$Row;", true)
  | 2 => ("WordPad$Boosts", "testStarts", "LWordPad$Row;", true)
  | 3 => ("WordPad$Boosts", "ends", "LWordPad$Row;", true)
  | 4 => ("WordPad$Boosts", "kinds", "LWordPad$Row;", true)
  | 5 => ("WordPad$Boosts", "values", "LWordPad$Row;", true)
  | _ => ("WordPad$Boosts", "beginnings", "LWordPad$Names;", true)
def tyX1 : Nat → FieldType := fun k => match k with
  | 0 => .object "WordPad$Row"
  | 1 => .object "WordPad$Row"
  | 2 => .object "WordPad$Row"
  | 3 => .object "WordPad$Row"
  | 4 => .object "WordPad$Row"
  | 5 => .object "WordPad$Row"
  | _ => .object "WordPad$Names"
theorem nmX1 : ∀ a, a < 7 → ∀ b, b < 7 → a ≠ b → (TX1 a).2.1 ≠ (TX1 b).2.1 := by decide +kernel
theorem tyX1_ok : ∀ k, k < 7 → parseFieldDescriptor (TX1 k).2.2.1 = some (tyX1 k) := by decide +kernel
abbrev cX1_init : ByteArray := prog_3_method_1_code
def yX1_init : MethodName := ⟨RX1, "<init>", "()V"⟩
abbrev cX1_clear : ByteArray := prog_3_method_2_code
def yX1_clear : MethodName := ⟨RX1, "clear", "()V"⟩
abbrev cX1_size : ByteArray := prog_3_method_3_code
def yX1_size : MethodName := ⟨RX1, "size", "()I"⟩
abbrev cX1_startSum : ByteArray := prog_3_method_4_code
def yX1_startSum : MethodName := ⟨RX1, "startSum", "()V"⟩
abbrev cX1_startTest : ByteArray := prog_3_method_5_code
def yX1_startTest : MethodName := ⟨RX1, "startTest", "()V"⟩
abbrev cX1_end : ByteArray := prog_3_method_6_code
def yX1_end : MethodName := ⟨RX1, "end", "()V"⟩
abbrev cX1_addStep : ByteArray := prog_3_method_7_code
def yX1_addStep : MethodName := ⟨RX1, "addStep", "(II)V"⟩
abbrev cX1_link : ByteArray := prog_3_method_8_code
def yX1_link : MethodName := ⟨RX1, "link", "(LWordPad$Row;)V"⟩
def RX2 : String := "WordPad$Grammar"
def TX2 : u_T := fun k => match k with
  | 0 => ("WordPad$Grammar", "tokens", "LWordPad$Tokens;", true)
  | 1 => ("WordPad$Grammar", "kinds", "LWordPad$Row;", true)
  | 2 => ("WordPad$Grammar", "tape", "LWordPad$Row;", true)
  | 3 => ("WordPad$Grammar", "boosts", "LWordPad$Boosts;", true)
  | _ => ("WordPad$Grammar", "at", "I", false)
def tyX2 : Nat → FieldType := fun k => match k with
  | 0 => .object "WordPad$Tokens"
  | 1 => .object "WordPad$Row"
  | 2 => .object "WordPad$Row"
  | 3 => .object "WordPad$Boosts"
  | _ => .int
theorem nmX2 : ∀ a, a < 5 → ∀ b, b < 5 → a ≠ b → (TX2 a).2.1 ≠ (TX2 b).2.1 := by decide +kernel
theorem tyX2_ok : ∀ k, k < 5 → parseFieldDescriptor (TX2 k).2.2.1 = some (tyX2 k) := by decide +kernel
abbrev cX2_init : ByteArray := prog_4_method_1_code
def yX2_init : MethodName := ⟨RX2, "<init>", "(LWordPad$Tokens;LWordPad$Row;LWordPad$Boosts;)V"⟩
abbrev cX2_read : ByteArray := prog_4_method_2_code
def yX2_read : MethodName := ⟨RX2, "read", "()I"⟩
abbrev cX2_is : ByteArray := prog_4_method_3_code
def yX2_is : MethodName := ⟨RX2, "is", "(I)Z"⟩
abbrev cX2_skip : ByteArray := prog_4_method_4_code
def yX2_skip : MethodName := ⟨RX2, "skip", "(I)Z"⟩
abbrev cX2_wordLine : ByteArray := prog_4_method_5_code
def yX2_wordLine : MethodName := ⟨RX2, "wordLine", "()Z"⟩
abbrev cX2_keyRows : ByteArray := prog_4_method_6_code
def yX2_keyRows : MethodName := ⟨RX2, "keyRows", "()Z"⟩
abbrev cX2_boost : ByteArray := prog_4_method_7_code
def yX2_boost : MethodName := ⟨RX2, "boost", "()Z"⟩
abbrev cX2_test : ByteArray := prog_4_method_8_code
def yX2_test : MethodName := ⟨RX2, "test", "(I)Z"⟩
abbrev cX2_both : ByteArray := prog_4_method_9_code
def yX2_both : MethodName := ⟨RX2, "both", "(I)Z"⟩
abbrev cX2_single : ByteArray := prog_4_method_10_code
def yX2_single : MethodName := ⟨RX2, "single", "(I)Z"⟩
abbrev cX2_compares : ByteArray := prog_4_method_11_code
def yX2_compares : MethodName := ⟨RX2, "compares", "(I)Z"⟩
abbrev cX2_sum : ByteArray := prog_4_method_12_code
def yX2_sum : MethodName := ⟨RX2, "sum", "(I)Z"⟩
abbrev cX2_product : ByteArray := prog_4_method_13_code
def yX2_product : MethodName := ⟨RX2, "product", "(I)Z"⟩
abbrev cX2_value : ByteArray := prog_4_method_14_code
def yX2_value : MethodName := ⟨RX2, "value", "(I)Z"⟩
abbrev cX2_ofTwo : ByteArray := prog_4_method_15_code
def yX2_ofTwo : MethodName := ⟨RX2, "ofTwo", "(II)Z"⟩
def RX3 : String := "WordPad$Hand"
def TX3 : u_T := fun k => match k with
  | 0 => ("WordPad$Hand", "typed", "LWordPad$Row;", true)
  | 1 => ("WordPad$Hand", "taken", "I", false)
  | 2 => ("WordPad$Hand", "latest", "I", false)
  | _ => ("WordPad$Hand", "limit", "I", false)
def tyX3 : Nat → FieldType := fun k => match k with
  | 0 => .object "WordPad$Row"
  | 1 => .int
  | 2 => .int
  | _ => .int
theorem nmX3 : ∀ a, a < 4 → ∀ b, b < 4 → a ≠ b → (TX3 a).2.1 ≠ (TX3 b).2.1 := by decide +kernel
theorem tyX3_ok : ∀ k, k < 4 → parseFieldDescriptor (TX3 k).2.2.1 = some (tyX3 k) := by decide +kernel
abbrev cX3_init : ByteArray := prog_5_method_1_code
def yX3_init : MethodName := ⟨RX3, "<init>", "()V"⟩
abbrev cX3_forget : ByteArray := prog_5_method_2_code
def yX3_forget : MethodName := ⟨RX3, "forget", "()V"⟩
abbrev cX3_supposeNothingTyped : ByteArray := prog_5_method_3_code
def yX3_supposeNothingTyped : MethodName := ⟨RX3, "supposeNothingTyped", "(LWordPad$Hand;)V"⟩
def RX4 : String := "WordPad$Keys"
def TX4 : u_T := fun k => match k with
  | 0 => ("WordPad$Keys", "rowOf", "LWordPad$Row;", true)
  | 1 => ("WordPad$Keys", "placeOf", "LWordPad$Row;", true)
  | _ => ("WordPad$Keys", "rows", "I", false)
def tyX4 : Nat → FieldType := fun k => match k with
  | 0 => .object "WordPad$Row"
  | 1 => .object "WordPad$Row"
  | _ => .int
theorem nmX4 : ∀ a, a < 3 → ∀ b, b < 3 → a ≠ b → (TX4 a).2.1 ≠ (TX4 b).2.1 := by decide +kernel
theorem tyX4_ok : ∀ k, k < 3 → parseFieldDescriptor (TX4 k).2.2.1 = some (tyX4 k) := by decide +kernel
abbrev cX4_init : ByteArray := prog_6_method_1_code
def yX4_init : MethodName := ⟨RX4, "<init>", "()V"⟩
abbrev cX4_clear : ByteArray := prog_6_method_2_code
def yX4_clear : MethodName := ⟨RX4, "clear", "()V"⟩
abbrev cX4_rows : ByteArray := prog_6_method_3_code
def yX4_rows : MethodName := ⟨RX4, "rows", "()I"⟩
abbrev cX4_addRow : ByteArray := prog_6_method_4_code
def yX4_addRow : MethodName := ⟨RX4, "addRow", "(LWordPad$Row;)Z"⟩
abbrev cX4_areNeighbours : ByteArray := prog_6_method_5_code
def yX4_areNeighbours : MethodName := ⟨RX4, "areNeighbours", "(II)Z"⟩
def RX5 : String := "WordPad$Names"
def TX5 : u_T := fun k => match k with
  | 0 => ("WordPad$Names", "names", "[LWordPad$Row;", true)
  | 1 => ("WordPad$Names", "nothing", "LWordPad$Row;", true)
  | _ => ("WordPad$Names", "size", "I", false)
def tyX5 : Nat → FieldType := fun k => match k with
  | 0 => .array (.object "WordPad$Row")
  | 1 => .object "WordPad$Row"
  | _ => .int
theorem nmX5 : ∀ a, a < 3 → ∀ b, b < 3 → a ≠ b → (TX5 a).2.1 ≠ (TX5 b).2.1 := by decide +kernel
theorem tyX5_ok : ∀ k, k < 3 → parseFieldDescriptor (TX5 k).2.2.1 = some (tyX5 k) := by decide +kernel
abbrev cX5_init : ByteArray := prog_7_method_1_code
def yX5_init : MethodName := ⟨RX5, "<init>", "(I)V"⟩
abbrev cX5_size : ByteArray := prog_7_method_2_code
def yX5_size : MethodName := ⟨RX5, "size", "()I"⟩
abbrev cX5_at : ByteArray := prog_7_method_4_code
def yX5_at : MethodName := ⟨RX5, "at", "(I)LWordPad$Row;"⟩
abbrev cX5_find : ByteArray := prog_7_method_5_code
def yX5_find : MethodName := ⟨RX5, "find", "(LWordPad$Row;)I"⟩
abbrev cX5_add : ByteArray := prog_7_method_6_code
def yX5_add : MethodName := ⟨RX5, "add", "(LWordPad$Row;)I"⟩
abbrev cX5_clear : ByteArray := prog_7_method_7_code
def yX5_clear : MethodName := ⟨RX5, "clear", "()V"⟩
def RX6 : String := "WordPad$Ranking"
def TX6 : u_T := fun k => match k with
  | 0 => ("WordPad$Ranking", "far", "LWordPad$Row;", true)
  | 1 => ("WordPad$Ranking", "scores", "LWordPad$Row;", true)
  | 2 => ("WordPad$Ranking", "places", "LWordPad$Row;", true)
  | 3 => ("WordPad$Ranking", "offers", "LWordPad$Row;", true)
  | 4 => ("WordPad$Ranking", "costs", "LWordPad$Row;", true)
  | 5 => ("WordPad$Ranking", "reckoner", "LWordPad$Reckoner;", true)
  | _ => ("WordPad$Ranking", "nearWords", "I", false)
def tyX6 : Nat → FieldType := fun k => match k with
  | 0 => .object "WordPad$Row"
  | 1 => .object "WordPad$Row"
  | 2 => .object "WordPad$Row"
  | 3 => .object "WordPad$Row"
  | 4 => .object "WordPad$Row"
  | 5 => .object "WordPad$Reckoner"
  | _ => .int
theorem nmX6 : ∀ a, a < 7 → ∀ b, b < 7 → a ≠ b → (TX6 a).2.1 ≠ (TX6 b).2.1 := by decide +kernel
theorem tyX6_ok : ∀ k, k < 7 → parseFieldDescriptor (TX6 k).2.2.1 = some (tyX6 k) := by decide +kernel
abbrev cX6_init : ByteArray := prog_8_method_1_code
def yX6_init : MethodName := ⟨RX6, "<init>", "()V"⟩
abbrev cX6_far : ByteArray := prog_8_method_2_code
def yX6_far : MethodName := ⟨RX6, "far", "(I)I"⟩
abbrev cX6_score : ByteArray := prog_8_method_3_code
def yX6_score : MethodName := ⟨RX6, "score", "(I)I"⟩
abbrev cX6_place : ByteArray := prog_8_method_4_code
def yX6_place : MethodName := ⟨RX6, "place", "(I)I"⟩
abbrev cX6_nearWords : ByteArray := prog_8_method_5_code
def yX6_nearWords : MethodName := ⟨RX6, "nearWords", "()I"⟩
abbrev cX6_offered : ByteArray := prog_8_method_6_code
def yX6_offered : MethodName := ⟨RX6, "offered", "(I)I"⟩
abbrev cX6_isOffered : ByteArray := prog_8_method_7_code
def yX6_isOffered : MethodName := ⟨RX6, "isOffered", "(I)Z"⟩
abbrev cX6_renew : ByteArray := prog_8_method_8_code
def yX6_renew : MethodName := ⟨RX6, "renew", "(LWordPad$Book;LWordPad$Hand;)V"⟩
abbrev cX6_placeWords : ByteArray := prog_8_method_9_code
def yX6_placeWords : MethodName := ⟨RX6, "placeWords", "(LWordPad$Book;I)V"⟩
abbrev cX6_wordsAhead : ByteArray := prog_8_method_10_code
def yX6_wordsAhead : MethodName := ⟨RX6, "wordsAhead", "(LWordPad$Book;II)I"⟩
abbrev cX6_leadsTie : ByteArray := prog_8_method_11_code
def yX6_leadsTie : MethodName := ⟨RX6, "leadsTie", "(LWordPad$Book;II)Z"⟩
abbrev cX6_leastScoreToLead : ByteArray := prog_8_method_12_code
def yX6_leastScoreToLead : MethodName := ⟨RX6, "leastScoreToLead", "(LWordPad$Book;I)J"⟩
abbrev cX6_distance : ByteArray := prog_8_method_13_code
def yX6_distance : MethodName := ⟨RX6, "distance", "(LWordPad$Row;LWordPad$Row;LWordPad$Keys;)I"⟩
abbrev cX6_typeOneMore : ByteArray := prog_8_method_14_code
def yX6_typeOneMore : MethodName := ⟨RX6, "typeOneMore", "(ILWordPad$Row;LWordPad$Keys;)V"⟩
def RX7 : String := "WordPad$Reader"
def TX7 : u_T := fun k => match k with
  | 0 => ("WordPad$Reader", "tokens", "LWordPad$Tokens;", true)
  | 1 => ("WordPad$Reader", "meanings", "LWordPad$Row;", true)
  | _ => ("WordPad$Reader", "errorPosition", "I", false)
def tyX7 : Nat → FieldType := fun k => match k with
  | 0 => .object "WordPad$Tokens"
  | 1 => .object "WordPad$Row"
  | _ => .int
theorem nmX7 : ∀ a, a < 3 → ∀ b, b < 3 → a ≠ b → (TX7 a).2.1 ≠ (TX7 b).2.1 := by decide +kernel
theorem tyX7_ok : ∀ k, k < 3 → parseFieldDescriptor (TX7 k).2.2.1 = some (tyX7 k) := by decide +kernel
abbrev cX7_init : ByteArray := prog_9_method_1_code
def yX7_init : MethodName := ⟨RX7, "<init>", "()V"⟩
abbrev cX7_errorPosition : ByteArray := prog_9_method_2_code
def yX7_errorPosition : MethodName := ⟨RX7, "errorPosition", "()I"⟩
abbrev cX7_read : ByteArray := prog_9_method_3_code
def yX7_read : MethodName := ⟨RX7, "read", "(LWordPad$Row;LWordPad$Book;)I"⟩
abbrev cX7_lookAt : ByteArray := prog_9_method_4_code
def yX7_lookAt : MethodName := ⟨RX7, "lookAt", "(ILWordPad$Row;LWordPad$Book;)I"⟩
abbrev cX7_weigh : ByteArray := prog_9_method_5_code
def yX7_weigh : MethodName := ⟨RX7, "weigh", "(ILWordPad$Book;)I"⟩
abbrev cX7_lookAtName : ByteArray := prog_9_method_6_code
def yX7_lookAtName : MethodName := ⟨RX7, "lookAtName", "(ILWordPad$Row;LWordPad$Book;)I"⟩
abbrev cX7_keyRow : ByteArray := prog_9_method_7_code
def yX7_keyRow : MethodName := ⟨RX7, "keyRow", "(LWordPad$Row;LWordPad$Keys;)I"⟩
def RX8 : String := "WordPad$Reckoner"
def TX8 : u_T := fun k => match k with
  | _ => ("WordPad$Reckoner", "stack", "LWordPad$Row;", true)
def tyX8 : Nat → FieldType := fun k => match k with
  | _ => .object "WordPad$Row"
theorem nmX8 : ∀ a, a < 1 → ∀ b, b < 1 → a ≠ b → (TX8 a).2.1 ≠ (TX8 b).2.1 := by decide +kernel
theorem tyX8_ok : ∀ k, k < 1 → parseFieldDescriptor (TX8 k).2.2.1 = some (tyX8 k) := by decide +kernel
abbrev cX8_init : ByteArray := prog_10_method_1_code
def yX8_init : MethodName := ⟨RX8, "<init>", "()V"⟩
abbrev cX8_boost : ByteArray := prog_10_method_2_code
def yX8_boost : MethodName := ⟨RX8, "boost", "(LWordPad$Book;LWordPad$Hand;II)I"⟩
abbrev cX8_run : ByteArray := prog_10_method_3_code
def yX8_run : MethodName := ⟨RX8, "run", "(LWordPad$Book;LWordPad$Hand;III)I"⟩
abbrev cX8_ofHand : ByteArray := prog_10_method_4_code
def yX8_ofHand : MethodName := ⟨RX8, "ofHand", "(IILWordPad$Hand;)I"⟩
abbrev cX8_ofTwo : ByteArray := prog_10_method_5_code
def yX8_ofTwo : MethodName := ⟨RX8, "ofTwo", "(III)I"⟩
abbrev cX8_holds : ByteArray := prog_10_method_6_code
def yX8_holds : MethodName := ⟨RX8, "holds", "(III)Z"⟩
def RX9 : String := "WordPad$Row"
def TX9 : u_T := fun k => match k with
  | 0 => ("WordPad$Row", "cells", "[I", true)
  | _ => ("WordPad$Row", "size", "I", false)
def tyX9 : Nat → FieldType := fun k => match k with
  | 0 => .array .int
  | _ => .int
theorem nmX9 : ∀ a, a < 2 → ∀ b, b < 2 → a ≠ b → (TX9 a).2.1 ≠ (TX9 b).2.1 := by decide +kernel
theorem tyX9_ok : ∀ k, k < 2 → parseFieldDescriptor (TX9 k).2.2.1 = some (tyX9 k) := by decide +kernel
abbrev cX9_init : ByteArray := prog_11_method_1_code
def yX9_init : MethodName := ⟨RX9, "<init>", "(I)V"⟩
abbrev cX9_size : ByteArray := prog_11_method_2_code
def yX9_size : MethodName := ⟨RX9, "size", "()I"⟩
abbrev cX9_isFull : ByteArray := prog_11_method_3_code
def yX9_isFull : MethodName := ⟨RX9, "isFull", "()Z"⟩
abbrev cX9_at : ByteArray := prog_11_method_4_code
def yX9_at : MethodName := ⟨RX9, "at", "(I)I"⟩
abbrev cX9_put : ByteArray := prog_11_method_5_code
def yX9_put : MethodName := ⟨RX9, "put", "(II)V"⟩
abbrev cX9_add : ByteArray := prog_11_method_6_code
def yX9_add : MethodName := ⟨RX9, "add", "(I)V"⟩
abbrev cX9_removeLast : ByteArray := prog_11_method_7_code
def yX9_removeLast : MethodName := ⟨RX9, "removeLast", "()I"⟩
abbrev cX9_shorten : ByteArray := prog_11_method_8_code
def yX9_shorten : MethodName := ⟨RX9, "shorten", "(I)V"⟩
abbrev cX9_clear : ByteArray := prog_11_method_9_code
def yX9_clear : MethodName := ⟨RX9, "clear", "()V"⟩
abbrev cX9_copy : ByteArray := prog_11_method_10_code
def yX9_copy : MethodName := ⟨RX9, "copy", "(LWordPad$Row;II)V"⟩
abbrev cX9_fill : ByteArray := prog_11_method_11_code
def yX9_fill : MethodName := ⟨RX9, "fill", "(I)V"⟩
abbrev cX9_sameAhead : ByteArray := prog_11_method_12_code
def yX9_sameAhead : MethodName := ⟨RX9, "sameAhead", "(LWordPad$Row;)I"⟩
abbrev cX9_beginsWith : ByteArray := prog_11_method_13_code
def yX9_beginsWith : MethodName := ⟨RX9, "beginsWith", "(LWordPad$Row;)Z"⟩
abbrev cX9_isSame : ByteArray := prog_11_method_14_code
def yX9_isSame : MethodName := ⟨RX9, "isSame", "(LWordPad$Row;)Z"⟩
abbrev cX9_addTo : ByteArray := prog_11_method_15_code
def yX9_addTo : MethodName := ⟨RX9, "addTo", "(J)J"⟩
def RX10 : String := "WordPad$Tokens"
def TX10 : u_T := fun k => match k with
  | 0 => ("WordPad$Tokens", "keywords", "LWordPad$Names;", true)
  | 1 => ("WordPad$Tokens", "kinds", "LWordPad$Row;", true)
  | 2 => ("WordPad$Tokens", "starts", "LWordPad$Row;", true)
  | 3 => ("WordPad$Tokens", "lengths", "LWordPad$Row;", true)
  | _ => ("WordPad$Tokens", "spelling", "LWordPad$Row;", true)
def tyX10 : Nat → FieldType := fun k => match k with
  | 0 => .object "WordPad$Names"
  | 1 => .object "WordPad$Row"
  | 2 => .object "WordPad$Row"
  | 3 => .object "WordPad$Row"
  | _ => .object "WordPad$Row"
theorem nmX10 : ∀ a, a < 5 → ∀ b, b < 5 → a ≠ b → (TX10 a).2.1 ≠ (TX10 b).2.1 := by decide +kernel
theorem tyX10_ok : ∀ k, k < 5 → parseFieldDescriptor (TX10 k).2.2.1 = some (tyX10 k) := by decide +kernel
abbrev cX10_init : ByteArray := prog_12_method_1_code
def yX10_init : MethodName := ⟨RX10, "<init>", "()V"⟩
abbrev cX10_read : ByteArray := prog_12_method_2_code
def yX10_read : MethodName := ⟨RX10, "read", "(LWordPad$Row;)V"⟩
abbrev cX10_size : ByteArray := prog_12_method_3_code
def yX10_size : MethodName := ⟨RX10, "size", "()I"⟩
abbrev cX10_kind : ByteArray := prog_12_method_4_code
def yX10_kind : MethodName := ⟨RX10, "kind", "(I)I"⟩
abbrev cX10_start : ByteArray := prog_12_method_5_code
def yX10_start : MethodName := ⟨RX10, "start", "(I)I"⟩
abbrev cX10_spell : ByteArray := prog_12_method_6_code
def yX10_spell : MethodName := ⟨RX10, "spell", "(LWordPad$Row;I)LWordPad$Row;"⟩
abbrev cX10_number : ByteArray := prog_12_method_7_code
def yX10_number : MethodName := ⟨RX10, "number", "(LWordPad$Row;I)I"⟩
abbrev cX10_skipBlanks : ByteArray := prog_12_method_8_code
def yX10_skipBlanks : MethodName := ⟨RX10, "skipBlanks", "(LWordPad$Row;I)I"⟩
abbrev cX10_lengthAt : ByteArray := prog_12_method_9_code
def yX10_lengthAt : MethodName := ⟨RX10, "lengthAt", "(LWordPad$Row;I)I"⟩
abbrev cX10_runLength : ByteArray := prog_12_method_10_code
def yX10_runLength : MethodName := ⟨RX10, "runLength", "(LWordPad$Row;IZ)I"⟩
abbrev cX10_kindAt : ByteArray := prog_12_method_11_code
def yX10_kindAt : MethodName := ⟨RX10, "kindAt", "(LWordPad$Row;II)I"⟩
def RX11 : String := "WordPad"
def TX11 : u_T := fun k => match k with
  | 0 => ("WordPad", "tape", "LWordPad$Row;", true)
  | 1 => ("WordPad", "reader", "LWordPad$Reader;", true)
  | 2 => ("WordPad", "told", "LWordPad$Book;", false)
  | 3 => ("WordPad", "draft", "LWordPad$Book;", false)
  | 4 => ("WordPad", "hand", "LWordPad$Hand;", true)
  | 5 => ("WordPad", "ranking", "LWordPad$Ranking;", true)
  | 6 => ("WordPad", "rankingStands", "Z", false)
  | 7 => ("WordPad", "supposedHand", "LWordPad$Hand;", true)
  | 8 => ("WordPad", "supposedRanking", "LWordPad$Ranking;", true)
  | _ => ("WordPad", "errorPosition", "I", false)
def tyX11 : Nat → FieldType := fun k => match k with
  | 0 => .object "WordPad$Row"
  | 1 => .object "WordPad$Reader"
  | 2 => .object "WordPad$Book"
  | 3 => .object "WordPad$Book"
  | 4 => .object "WordPad$Hand"
  | 5 => .object "WordPad$Ranking"
  | 6 => .boolean
  | 7 => .object "WordPad$Hand"
  | 8 => .object "WordPad$Ranking"
  | _ => .int
theorem nmX11 : ∀ a, a < 10 → ∀ b, b < 10 → a ≠ b → (TX11 a).2.1 ≠ (TX11 b).2.1 := by decide +kernel
theorem tyX11_ok : ∀ k, k < 10 → parseFieldDescriptor (TX11 k).2.2.1 = some (tyX11 k) := by decide +kernel
abbrev cX11_init : ByteArray := prog_1_method_1_code
def yX11_init : MethodName := ⟨RX11, "<init>", "()V"⟩
abbrev cX11_feed : ByteArray := prog_1_method_2_code
def yX11_feed : MethodName := ⟨RX11, "feed", "(IIIII)I"⟩
abbrev cX11_trim : ByteArray := prog_1_method_3_code
def yX11_trim : MethodName := ⟨RX11, "trim", "(I)I"⟩
abbrev cX11_teach : ByteArray := prog_1_method_4_code
def yX11_teach : MethodName := ⟨RX11, "teach", "()I"⟩
abbrev cX11_count : ByteArray := prog_1_method_6_code
def yX11_count : MethodName := ⟨RX11, "count", "(I)I"⟩
abbrev cX11_type : ByteArray := prog_1_method_7_code
def yX11_type : MethodName := ⟨RX11, "type", "(I)I"⟩
abbrev cX11_back : ByteArray := prog_1_method_8_code
def yX11_back : MethodName := ⟨RX11, "back", "()I"⟩
abbrev cX11_take : ByteArray := prog_1_method_9_code
def yX11_take : MethodName := ⟨RX11, "take", "(I)I"⟩
abbrev cX11_setLimit : ByteArray := prog_1_method_11_code
def yX11_setLimit : MethodName := ⟨RX11, "setLimit", "(I)I"⟩
abbrev cX11_offer : ByteArray := prog_1_method_12_code
def yX11_offer : MethodName := ⟨RX11, "offer", "(I)I"⟩
abbrev cX11_word : ByteArray := prog_1_method_13_code
def yX11_word : MethodName := ⟨RX11, "word", "(II)I"⟩
abbrev cX11_best : ByteArray := prog_1_method_16_code
def yX11_best : MethodName := ⟨RX11, "best", "()I"⟩
abbrev cX11_strokes : ByteArray := prog_1_method_17_code
def yX11_strokes : MethodName := ⟨RX11, "strokes", "(I)I"⟩
abbrev cX11_needs : ByteArray := prog_1_method_18_code
def yX11_needs : MethodName := ⟨RX11, "needs", "(I)I"⟩
abbrev cX11_closest : ByteArray := prog_1_method_19_code
def yX11_closest : MethodName := ⟨RX11, "closest", "(I)I"⟩
abbrev cX11_digest : ByteArray := prog_1_method_21_code
def yX11_digest : MethodName := ⟨RX11, "digest", "()J"⟩
abbrev cX11_isLetter : ByteArray := prog_1_method_22_code
def yX11_isLetter : MethodName := ⟨RX11, "isLetter", "(I)Z"⟩
abbrev cX11_isDigit : ByteArray := prog_1_method_23_code
def yX11_isDigit : MethodName := ⟨RX11, "isDigit", "(I)Z"⟩
abbrev cX11_appendBytes : ByteArray := prog_1_method_24_code
def yX11_appendBytes : MethodName := ⟨RX11, "appendBytes", "(I)V"⟩
abbrev cX11_rank : ByteArray := prog_1_method_25_code
def yX11_rank : MethodName := ⟨RX11, "rank", "()V"⟩
abbrev cX11_takeWord : ByteArray := prog_1_method_26_code
def yX11_takeWord : MethodName := ⟨RX11, "takeWord", "(I)V"⟩
abbrev cX11_figure : ByteArray := prog_1_method_27_code
def yX11_figure : MethodName := ⟨RX11, "figure", "(I)I"⟩
abbrev cX11_wordFigure : ByteArray := prog_1_method_28_code
def yX11_wordFigure : MethodName := ⟨RX11, "wordFigure", "(II)I"⟩
def RX12 : String := "WordPadModel$Book"
def TX12 : u_T := fun k => match k with
  | _ => ("", "", "", false)
def tyX12 : Nat → FieldType := fun k => match k with
  | _ => .int
theorem nmX12 : ∀ a, a < 0 → ∀ b, b < 0 → a ≠ b → (TX12 a).2.1 ≠ (TX12 b).2.1 := by decide +kernel
theorem tyX12_ok : ∀ k, k < 0 → parseFieldDescriptor (TX12 k).2.2.1 = some (tyX12 k) := by decide +kernel
def RX13 : String := "WordPadModel"
def TX13 : u_T := fun k => match k with
  | _ => ("", "", "", false)
def tyX13 : Nat → FieldType := fun k => match k with
  | _ => .int
theorem nmX13 : ∀ a, a < 0 → ∀ b, b < 0 → a ≠ b → (TX13 a).2.1 ≠ (TX13 b).2.1 := by decide +kernel
theorem tyX13_ok : ∀ k, k < 0 → parseFieldDescriptor (TX13 k).2.2.1 = some (tyX13 k) := by decide +kernel
def RJ11 : String := "java/lang/Character"
def TJ11 : u_T := fun k => match k with
  | _ => ("", "", "", false)
def tyJ11 : Nat → FieldType := fun k => match k with
  | _ => .int
theorem nmJ11 : ∀ a, a < 0 → ∀ b, b < 0 → a ≠ b → (TJ11 a).2.1 ≠ (TJ11 b).2.1 := by decide +kernel
theorem tyJ11_ok : ∀ k, k < 0 → parseFieldDescriptor (TJ11 k).2.2.1 = some (tyJ11 k) := by decide +kernel
abbrev cJ11_isValidCodePoint_9a6ad : ByteArray := prog_16_method_11_code
def yJ11_isValidCodePoint_9a6ad : MethodName := ⟨RJ11, "isValidCodePoint", "(I)Z"⟩
abbrev cJ11_highSurrogate_5068e : ByteArray := prog_16_method_28_code
def yJ11_highSurrogate_5068e : MethodName := ⟨RJ11, "highSurrogate", "(I)C"⟩
abbrev cJ11_lowSurrogate_5068e : ByteArray := prog_16_method_29_code
def yJ11_lowSurrogate_5068e : MethodName := ⟨RJ11, "lowSurrogate", "(I)C"⟩
def RJ9 : String := "java/lang/Math"
def TJ9 : u_T := fun k => match k with
  | _ => ("", "", "", false)
def tyJ9 : Nat → FieldType := fun k => match k with
  | _ => .int
theorem nmJ9 : ∀ a, a < 0 → ∀ b, b < 0 → a ≠ b → (TJ9 a).2.1 ≠ (TJ9 b).2.1 := by decide +kernel
theorem tyJ9_ok : ∀ k, k < 0 → parseFieldDescriptor (TJ9 k).2.2.1 = some (tyJ9 k) := by decide +kernel
abbrev cJ9_max_7cf53 : ByteArray := prog_21_method_65_code
def yJ9_max_7cf53 : MethodName := ⟨RJ9, "max", "(II)I"⟩
abbrev cJ9_max_f86c9 : ByteArray := prog_21_method_66_code
def yJ9_max_f86c9 : MethodName := ⟨RJ9, "max", "(JJ)J"⟩
abbrev cJ9_min_7cf53 : ByteArray := prog_21_method_69_code
def yJ9_min_7cf53 : MethodName := ⟨RJ9, "min", "(II)I"⟩
def RJ0 : String := "java/lang/String"
def TJ0 : u_T := fun k => match k with
  | _ => ("", "", "", false)
def tyJ0 : Nat → FieldType := fun k => match k with
  | _ => .int
theorem nmJ0 : ∀ a, a < 0 → ∀ b, b < 0 → a ≠ b → (TJ0 a).2.1 ≠ (TJ0 b).2.1 := by decide +kernel
theorem tyJ0_ok : ∀ k, k < 0 → parseFieldDescriptor (TJ0 k).2.2.1 = some (tyJ0 k) := by decide +kernel
abbrev cJ0_length_8abf5 : ByteArray := prog_23_method_54_code
def yJ0_length_8abf5 : MethodName := ⟨RJ0, "length", "()I"⟩
abbrev cJ0_charAt_5068e : ByteArray := prog_23_method_56_code
def yJ0_charAt_5068e : MethodName := ⟨RJ0, "charAt", "(I)C"⟩
abbrev cJ0_indexOf_0f7a4 : ByteArray := prog_23_method_79_code
def yJ0_indexOf_0f7a4 : MethodName := ⟨RJ0, "indexOf", "(I)I"⟩
abbrev cJ0_indexOf_7cf53 : ByteArray := prog_23_method_80_code
def yJ0_indexOf_7cf53 : MethodName := ⟨RJ0, "indexOf", "(II)I"⟩
abbrev cJ0_coder_7d493 : ByteArray := prog_23_method_152_code
def yJ0_coder_7d493 : MethodName := ⟨RJ0, "coder", "()B"⟩
abbrev cJ0_isLatin1_aae02 : ByteArray := prog_23_method_154_code
def yJ0_isLatin1_aae02 : MethodName := ⟨RJ0, "isLatin1", "()Z"⟩
abbrev cJ0_checkIndex_df160 : ByteArray := prog_23_method_155_code
def yJ0_checkIndex_df160 : MethodName := ⟨RJ0, "checkIndex", "(II)V"⟩
abbrev cJ0_checkBoundsBeginEnd_23922 : ByteArray := prog_23_method_158_code
def yJ0_checkBoundsBeginEnd_23922 : MethodName := ⟨RJ0, "checkBoundsBeginEnd", "(III)V"⟩
def RJ1 : String := "java/lang/StringLatin1"
def TJ1 : u_T := fun k => match k with
  | _ => ("", "", "", false)
def tyJ1 : Nat → FieldType := fun k => match k with
  | _ => .int
theorem nmJ1 : ∀ a, a < 0 → ∀ b, b < 0 → a ≠ b → (TJ1 a).2.1 ≠ (TJ1 b).2.1 := by decide +kernel
theorem tyJ1_ok : ∀ k, k < 0 → parseFieldDescriptor (TJ1 k).2.2.1 = some (tyJ1 k) := by decide +kernel
abbrev cJ1_charAt_3b067 : ByteArray := prog_24_method_2_code
def yJ1_charAt_3b067 : MethodName := ⟨RJ1, "charAt", "([BI)C"⟩
abbrev cJ1_canEncode_9a6ad : ByteArray := prog_24_method_4_code
def yJ1_canEncode_9a6ad : MethodName := ⟨RJ1, "canEncode", "(I)Z"⟩
abbrev cJ1_indexOf_4cfef : ByteArray := prog_24_method_22_code
def yJ1_indexOf_4cfef : MethodName := ⟨RJ1, "indexOf", "([BIII)I"⟩
abbrev cJ1_indexOfChar_4cfef : ByteArray := prog_24_method_23_code
def yJ1_indexOfChar_4cfef : MethodName := ⟨RJ1, "indexOfChar", "([BIII)I"⟩
def RJ2 : String := "java/lang/StringUTF16"
def TJ2 : u_T := fun k => match k with
  | _ => ("", "", "", false)
def tyJ2 : Nat → FieldType := fun k => match k with
  | _ => .int
theorem nmJ2 : ∀ a, a < 0 → ∀ b, b < 0 → a ≠ b → (TJ2 a).2.1 ≠ (TJ2 b).2.1 := by decide +kernel
theorem tyJ2_ok : ∀ k, k < 0 → parseFieldDescriptor (TJ2 k).2.2.1 = some (tyJ2 k) := by decide +kernel
abbrev cJ2_getChar_3b067 : ByteArray := prog_25_method_5_code
def yJ2_getChar_3b067 : MethodName := ⟨RJ2, "getChar", "([BI)C"⟩
abbrev cJ2_length_9d52b : ByteArray := prog_25_method_6_code
def yJ2_length_9d52b : MethodName := ⟨RJ2, "length", "([B)I"⟩
abbrev cJ2_indexOf_4cfef : ByteArray := prog_25_method_40_code
def yJ2_indexOf_4cfef : MethodName := ⟨RJ2, "indexOf", "([BIII)I"⟩
abbrev cJ2_indexOfChar_4cfef : ByteArray := prog_25_method_47_code
def yJ2_indexOfChar_4cfef : MethodName := ⟨RJ2, "indexOfChar", "([BIII)I"⟩
abbrev cJ2_indexOfCharUnsafe_4cfef : ByteArray := prog_25_method_48_code
def yJ2_indexOfCharUnsafe_4cfef : MethodName := ⟨RJ2, "indexOfCharUnsafe", "([BIII)I"⟩
abbrev cJ2_indexOfSupplementary_4cfef : ByteArray := prog_25_method_49_code
def yJ2_indexOfSupplementary_4cfef : MethodName := ⟨RJ2, "indexOfSupplementary", "([BIII)I"⟩
abbrev cJ2_charAt_3b067 : ByteArray := prog_25_method_83_code
def yJ2_charAt_3b067 : MethodName := ⟨RJ2, "charAt", "([BI)C"⟩
abbrev cJ2_checkIndex_2214a : ByteArray := prog_25_method_91_code
def yJ2_checkIndex_2214a : MethodName := ⟨RJ2, "checkIndex", "(I[B)V"⟩
abbrev cJ2_checkBoundsBeginEnd_d044e : ByteArray := prog_25_method_93_code
def yJ2_checkBoundsBeginEnd_d044e : MethodName := ⟨RJ2, "checkBoundsBeginEnd", "(II[B)V"⟩
def RJ3 : String := "jdk/internal/util/Preconditions"
def TJ3 : u_T := fun k => match k with
  | _ => ("", "", "", false)
def tyJ3 : Nat → FieldType := fun k => match k with
  | _ => .int
theorem nmJ3 : ∀ a, a < 0 → ∀ b, b < 0 → a ≠ b → (TJ3 a).2.1 ≠ (TJ3 b).2.1 := by decide +kernel
theorem tyJ3_ok : ∀ k, k < 0 → parseFieldDescriptor (TJ3 k).2.2.1 = some (tyJ3 k) := by decide +kernel
abbrev cJ3_checkIndex_8e157 : ByteArray := prog_27_method_11_code
def yJ3_checkIndex_8e157 : MethodName := ⟨RJ3, "checkIndex", "(IILjava/util/function/BiFunction;)I"⟩
abbrev cJ3_checkFromToIndex_8c36e : ByteArray := prog_27_method_12_code
def yJ3_checkFromToIndex_8c36e : MethodName := ⟨RJ3, "checkFromToIndex", "(IIILjava/util/function/BiFunction;)I"⟩
def RL : String := "WordPadLaw"
abbrev cL_below : ByteArray := method_2_code
def yL_below : MethodName := ⟨RL, "below", "(II)I"⟩
abbrev cL_cell : ByteArray := method_3_code
def yL_cell : MethodName := ⟨RL, "cell", "([II)I"⟩
abbrev cL_letter : ByteArray := method_4_code
def yL_letter : MethodName := ⟨RL, "letter", "(Ljava/lang/String;I)I"⟩
abbrev cL_four : ByteArray := method_5_code
def yL_four : MethodName := ⟨RL, "four", "(Ljava/lang/String;I)I"⟩
abbrev cL_say : ByteArray := method_6_code
def yL_say : MethodName := ⟨RL, "say", "(LWordPad;Ljava/lang/String;)V"⟩
abbrev cL_number : ByteArray := method_7_code
def yL_number : MethodName := ⟨RL, "number", "(LWordPad;I)V"⟩
abbrev cL_put : ByteArray := method_8_code
def yL_put : MethodName := ⟨RL, "put", "(LWordPad;I)V"⟩
abbrev cL_size : ByteArray := method_9_code
def yL_size : MethodName := ⟨RL, "size", "([II)I"⟩
abbrev cL_letter_ : ByteArray := method_10_code
def yL_letter_ : MethodName := ⟨RL, "letter", "([III)I"⟩
abbrev cL_weight : ByteArray := method_11_code
def yL_weight : MethodName := ⟨RL, "weight", "([II)I"⟩
abbrev cL_pad : ByteArray := method_12_code
def yL_pad : MethodName := ⟨RL, "pad", "([I)LWordPad;"⟩
abbrev cL_law : ByteArray := code
def yL_law : MethodName := ⟨RL, "law", "([I)Z"⟩
abbrev vwCl : List vw_C := [(RX0, TX0, 6), (RX1, TX1, 7), (RX2, TX2, 5), (RX3, TX3, 4), (RX4, TX4, 3), (RX5, TX5, 3), (RX6, TX6, 7), (RX7, TX7, 3), (RX8, TX8, 1), (RX9, TX9, 2), (RX10, TX10, 5), (RX11, TX11, 10)]
