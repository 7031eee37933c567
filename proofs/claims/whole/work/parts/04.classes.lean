/-! ===== the classes whose objects the heap holds: names, fields, kinds of fields ===== -/
def xF0 : u_T := fun k => match k with
  | 0 => ("BeaconIndex", "tape", "LBeaconIndex$Tape;", true)
  | 1 => ("BeaconIndex", "store", "LBeaconIndex$Store;", true)
  | 2 => ("BeaconIndex", "vocabulary", "LBeaconIndex$Vocabulary;", true)
  | 3 => ("BeaconIndex", "questionReader", "LBeaconIndex$QuestionReader;", true)
  | 4 => ("BeaconIndex", "findings", "LBeaconIndex$Findings;", true)
  | 5 => ("BeaconIndex", "word", "J", false)
  | _ => ("BeaconIndex", "asked", "Ljava/util/ArrayList;", false)
def xT0 : Nat → FieldType := fun k => match k with
  | 0 => .object "BeaconIndex$Tape"
  | 1 => .object "BeaconIndex$Store"
  | 2 => .object "BeaconIndex$Vocabulary"
  | 3 => .object "BeaconIndex$QuestionReader"
  | 4 => .object "BeaconIndex$Findings"
  | 5 => .long
  | _ => .object "java/util/ArrayList"
theorem xn0 : ∀ a, a < 7 → ∀ b, b < 7 → a ≠ b → (xF0 a).2.1 ≠ (xF0 b).2.1 := by decide +kernel
theorem xt0 : ∀ k, k < 7 → parseFieldDescriptor (xF0 k).2.2.1 = some (xT0 k) := by decide +kernel
theorem xi0 : ∀ w ∈ u_ws "BeaconIndex" xF0 7, w ∈ lw_tbl := by decide +kernel
theorem xj0 : Cond.instantiable "BeaconIndex" 7 ∈ lw_tbl := List.mem_append_right _ (List.mem_of_getElem? (i := 41) (by decide +kernel))
def xF1 : u_T := fun k => match k with
  | 0 => ("BeaconIndex$Findings", "fits", "LBeaconIndex$Fits;", true)
  | 1 => ("BeaconIndex$Findings", "partIsIn", "[Z", true)
  | 2 => ("BeaconIndex$Findings", "partWeights", "[I", true)
  | 3 => ("BeaconIndex$Findings", "weights", "[I", true)
  | 4 => ("BeaconIndex$Findings", "order", "[I", true)
  | _ => ("BeaconIndex$Findings", "count", "I", false)
def xT1 : Nat → FieldType := fun k => match k with
  | 0 => .object "BeaconIndex$Fits"
  | 1 => .array (.boolean)
  | 2 => .array (.int)
  | 3 => .array (.int)
  | 4 => .array (.int)
  | _ => .int
theorem xn1 : ∀ a, a < 6 → ∀ b, b < 6 → a ≠ b → (xF1 a).2.1 ≠ (xF1 b).2.1 := by decide +kernel
theorem xt1 : ∀ k, k < 6 → parseFieldDescriptor (xF1 k).2.2.1 = some (xT1 k) := by decide +kernel
theorem xi1 : ∀ w ∈ u_ws "BeaconIndex$Findings" xF1 6, w ∈ lw_tbl := by decide +kernel
theorem xj1 : Cond.instantiable "BeaconIndex$Findings" 6 ∈ lw_tbl := List.mem_append_right _ (List.mem_of_getElem? (i := 355) (by decide +kernel))
def xF2 : u_T := fun k => match k with
  | 0 => ("BeaconIndex$Fits", "times", "[I", true)
  | 1 => ("BeaconIndex$Fits", "firsts", "[I", true)
  | 2 => ("BeaconIndex$Fits", "meanLengths", "[I", true)
  | _ => ("BeaconIndex$Fits", "match", "LBeaconIndex$Match;", true)
def xT2 : Nat → FieldType := fun k => match k with
  | 0 => .array (.int)
  | 1 => .array (.int)
  | 2 => .array (.int)
  | _ => .object "BeaconIndex$Match"
theorem xn2 : ∀ a, a < 4 → ∀ b, b < 4 → a ≠ b → (xF2 a).2.1 ≠ (xF2 b).2.1 := by decide +kernel
theorem xt2 : ∀ k, k < 4 → parseFieldDescriptor (xF2 k).2.2.1 = some (xT2 k) := by decide +kernel
theorem xi2 : ∀ w ∈ u_ws "BeaconIndex$Fits" xF2 4, w ∈ lw_tbl := by decide +kernel
theorem xj2 : Cond.instantiable "BeaconIndex$Fits" 4 ∈ lw_tbl := List.mem_append_right _ (List.mem_of_getElem? (i := 361) (by decide +kernel))
def xF3 : u_T := fun k => match k with
  | 0 => ("BeaconIndex$Match", "wanted", "[J", true)
  | 1 => ("BeaconIndex$Match", "lacking", "[I", true)
  | 2 => ("BeaconIndex$Match", "wantedCount", "I", false)
  | 3 => ("BeaconIndex$Match", "unmet", "I", false)
  | 4 => ("BeaconIndex$Match", "times", "I", false)
  | _ => ("BeaconIndex$Match", "first", "I", false)
def xT3 : Nat → FieldType := fun k => match k with
  | 0 => .array (.long)
  | 1 => .array (.int)
  | 2 => .int
  | 3 => .int
  | 4 => .int
  | _ => .int
theorem xn3 : ∀ a, a < 6 → ∀ b, b < 6 → a ≠ b → (xF3 a).2.1 ≠ (xF3 b).2.1 := by decide +kernel
theorem xt3 : ∀ k, k < 6 → parseFieldDescriptor (xF3 k).2.2.1 = some (xT3 k) := by decide +kernel
theorem xi3 : ∀ w ∈ u_ws "BeaconIndex$Match" xF3 6, w ∈ lw_tbl := by decide +kernel
theorem xj3 : Cond.instantiable "BeaconIndex$Match" 6 ∈ lw_tbl := List.mem_append_right _ (List.mem_of_getElem? (i := 367) (by decide +kernel))
def xF4 : u_T := fun k => match k with
  | 0 => ("BeaconIndex$Part", "number", "I", true)
  | 1 => ("BeaconIndex$Part", "sign", "I", true)
  | 2 => ("BeaconIndex$Part", "field", "I", true)
  | 3 => ("BeaconIndex$Part", "barred", "Z", true)
  | 4 => ("BeaconIndex$Part", "words", "[J", true)
  | 5 => ("BeaconIndex$Part", "kind", "I", false)
  | 6 => ("BeaconIndex$Part", "factor", "I", false)
  | 7 => ("BeaconIndex$Part", "looseness", "I", false)
  | 8 => ("BeaconIndex$Part", "beginning", "J", false)
  | 9 => ("BeaconIndex$Part", "beginningBytes", "I", false)
  | 10 => ("BeaconIndex$Part", "inner", "I", false)
  | 11 => ("BeaconIndex$Part", "titleRarity", "I", false)
  | _ => ("BeaconIndex$Part", "bodyRarity", "I", false)
def xT4 : Nat → FieldType := fun k => match k with
  | 0 => .int
  | 1 => .int
  | 2 => .int
  | 3 => .boolean
  | 4 => .array (.long)
  | 5 => .int
  | 6 => .int
  | 7 => .int
  | 8 => .long
  | 9 => .int
  | 10 => .int
  | 11 => .int
  | _ => .int
theorem xn4 : ∀ a, a < 13 → ∀ b, b < 13 → a ≠ b → (xF4 a).2.1 ≠ (xF4 b).2.1 := by decide +kernel
theorem xt4 : ∀ k, k < 13 → parseFieldDescriptor (xF4 k).2.2.1 = some (xT4 k) := by decide +kernel
theorem xi4 : ∀ w ∈ u_ws "BeaconIndex$Part" xF4 13, w ∈ lw_tbl := by decide +kernel
theorem xj4 : Cond.instantiable "BeaconIndex$Part" 13 ∈ lw_tbl := List.mem_append_right _ (List.mem_of_getElem? (i := 211) (by decide +kernel))
def xF5 : u_T := fun k => match k with
  | 0 => ("BeaconIndex$Question", "parts", "Ljava/util/ArrayList;", true)
  | 1 => ("BeaconIndex$Question", "hasPlus", "Z", false)
  | 2 => ("BeaconIndex$Question", "isRefused", "Z", false)
  | 3 => ("BeaconIndex$Question", "isTouched", "Z", false)
  | _ => ("BeaconIndex$Question", "weight", "I", false)
def xT5 : Nat → FieldType := fun k => match k with
  | 0 => .object "java/util/ArrayList"
  | 1 => .boolean
  | 2 => .boolean
  | 3 => .boolean
  | _ => .int
theorem xn5 : ∀ a, a < 5 → ∀ b, b < 5 → a ≠ b → (xF5 a).2.1 ≠ (xF5 b).2.1 := by decide +kernel
theorem xt5 : ∀ k, k < 5 → parseFieldDescriptor (xF5 k).2.2.1 = some (xT5 k) := by decide +kernel
theorem xi5 : ∀ w ∈ u_ws "BeaconIndex$Question" xF5 5, w ∈ lw_tbl := by decide +kernel
theorem xj5 : Cond.instantiable "BeaconIndex$Question" 5 ∈ lw_tbl := List.mem_append_right _ (List.mem_of_getElem? (i := 279) (by decide +kernel))
def xF6 : u_T := fun k => match k with
  | 0 => ("BeaconIndex$QuestionReader", "phrase", "[J", true)
  | 1 => ("BeaconIndex$QuestionReader", "phraseRuns", "I", false)
  | 2 => ("BeaconIndex$QuestionReader", "open", "Ljava/util/ArrayList;", true)
  | 3 => ("BeaconIndex$QuestionReader", "outermost", "LBeaconIndex$Part;", true)
  | 4 => ("BeaconIndex$QuestionReader", "noQuestion", "LBeaconIndex$Question;", true)
  | 5 => ("BeaconIndex$QuestionReader", "draft", "Ljava/util/ArrayList;", false)
  | 6 => ("BeaconIndex$QuestionReader", "partCount", "I", false)
  | 7 => ("BeaconIndex$QuestionReader", "latest", "LBeaconIndex$Part;", false)
  | 8 => ("BeaconIndex$QuestionReader", "at", "I", false)
  | 9 => ("BeaconIndex$QuestionReader", "start", "I", false)
  | 10 => ("BeaconIndex$QuestionReader", "token", "I", false)
  | 11 => ("BeaconIndex$QuestionReader", "word", "J", false)
  | 12 => ("BeaconIndex$QuestionReader", "state", "I", false)
  | 13 => ("BeaconIndex$QuestionReader", "sign", "I", false)
  | _ => ("BeaconIndex$QuestionReader", "ownField", "I", false)
def xT6 : Nat → FieldType := fun k => match k with
  | 0 => .array (.long)
  | 1 => .int
  | 2 => .object "java/util/ArrayList"
  | 3 => .object "BeaconIndex$Part"
  | 4 => .object "BeaconIndex$Question"
  | 5 => .object "java/util/ArrayList"
  | 6 => .int
  | 7 => .object "BeaconIndex$Part"
  | 8 => .int
  | 9 => .int
  | 10 => .int
  | 11 => .long
  | 12 => .int
  | 13 => .int
  | _ => .int
theorem xn6 : ∀ a, a < 15 → ∀ b, b < 15 → a ≠ b → (xF6 a).2.1 ≠ (xF6 b).2.1 := by decide +kernel
theorem xt6 : ∀ k, k < 15 → parseFieldDescriptor (xF6 k).2.2.1 = some (xT6 k) := by decide +kernel
theorem xi6 : ∀ w ∈ u_ws "BeaconIndex$QuestionReader" xF6 15, w ∈ lw_tbl := by decide +kernel
theorem xj6 : Cond.instantiable "BeaconIndex$QuestionReader" 15 ∈ lw_tbl := List.mem_append_right _ (List.mem_of_getElem? (i := 203) (by decide +kernel))
def xF7 : u_T := fun k => match k with
  | 0 => ("BeaconIndex$Store", "buffer", "Ljava/util/ArrayList;", true)
  | 1 => ("BeaconIndex$Store", "filed", "Ljava/util/ArrayList;", true)
  | 2 => ("BeaconIndex$Store", "sizes", "[I", true)
  | 3 => ("BeaconIndex$Store", "nothing", "LBeaconIndex$Text;", true)
  | 4 => ("BeaconIndex$Store", "segmentCount", "I", false)
  | _ => ("BeaconIndex$Store", "mergeCount", "I", false)
def xT7 : Nat → FieldType := fun k => match k with
  | 0 => .object "java/util/ArrayList"
  | 1 => .object "java/util/ArrayList"
  | 2 => .array (.int)
  | 3 => .object "BeaconIndex$Text"
  | 4 => .int
  | _ => .int
theorem xn7 : ∀ a, a < 6 → ∀ b, b < 6 → a ≠ b → (xF7 a).2.1 ≠ (xF7 b).2.1 := by decide +kernel
theorem xt7 : ∀ k, k < 6 → parseFieldDescriptor (xF7 k).2.2.1 = some (xT7 k) := by decide +kernel
theorem xi7 : ∀ w ∈ u_ws "BeaconIndex$Store" xF7 6, w ∈ lw_tbl := by decide +kernel
theorem xj7 : Cond.instantiable "BeaconIndex$Store" 6 ∈ lw_tbl := List.mem_append_right _ (List.mem_of_getElem? (i := 82) (by decide +kernel))
def xF8 : u_T := fun k => match k with
  | 0 => ("BeaconIndex$Tape", "bytes", "[I", true)
  | 1 => ("BeaconIndex$Tape", "row", "[J", true)
  | 2 => ("BeaconIndex$Tape", "letters", "[I", true)
  | 3 => ("BeaconIndex$Tape", "length", "I", false)
  | 4 => ("BeaconIndex$Tape", "runStart", "I", false)
  | 5 => ("BeaconIndex$Tape", "runEnd", "I", false)
  | _ => ("BeaconIndex$Tape", "kept", "I", false)
def xT8 : Nat → FieldType := fun k => match k with
  | 0 => .array (.int)
  | 1 => .array (.long)
  | 2 => .array (.int)
  | 3 => .int
  | 4 => .int
  | 5 => .int
  | _ => .int
theorem xn8 : ∀ a, a < 7 → ∀ b, b < 7 → a ≠ b → (xF8 a).2.1 ≠ (xF8 b).2.1 := by decide +kernel
theorem xt8 : ∀ k, k < 7 → parseFieldDescriptor (xF8 k).2.2.1 = some (xT8 k) := by decide +kernel
theorem xi8 : ∀ w ∈ u_ws "BeaconIndex$Tape" xF8 7, w ∈ lw_tbl := by decide +kernel
theorem xj8 : Cond.instantiable "BeaconIndex$Tape" 7 ∈ lw_tbl := List.mem_append_right _ (List.mem_of_getElem? (i := 49) (by decide +kernel))
def xF9 : u_T := fun k => match k with
  | 0 => ("BeaconIndex$Text", "key", "I", true)
  | 1 => ("BeaconIndex$Text", "shelf", "I", true)
  | 2 => ("BeaconIndex$Text", "rank", "I", true)
  | 3 => ("BeaconIndex$Text", "title", "[J", true)
  | 4 => ("BeaconIndex$Text", "body", "[J", true)
  | _ => ("BeaconIndex$Text", "marked", "Z", false)
def xT9 : Nat → FieldType := fun k => match k with
  | 0 => .int
  | 1 => .int
  | 2 => .int
  | 3 => .array (.long)
  | 4 => .array (.long)
  | _ => .boolean
theorem xn9 : ∀ a, a < 6 → ∀ b, b < 6 → a ≠ b → (xF9 a).2.1 ≠ (xF9 b).2.1 := by decide +kernel
theorem xt9 : ∀ k, k < 6 → parseFieldDescriptor (xF9 k).2.2.1 = some (xT9 k) := by decide +kernel
theorem xi9 : ∀ w ∈ u_ws "BeaconIndex$Text" xF9 6, w ∈ lw_tbl := by decide +kernel
theorem xj9 : Cond.instantiable "BeaconIndex$Text" 6 ∈ lw_tbl := List.mem_append_right _ (List.mem_of_getElem? (i := 114) (by decide +kernel))
def xF10 : u_T := fun k => match k with
  | 0 => ("BeaconIndex$Vocabulary", "words", "[J", false)
  | 1 => ("BeaconIndex$Vocabulary", "textCounts", "[I", false)
  | 2 => ("BeaconIndex$Vocabulary", "latestTexts", "[I", false)
  | 3 => ("BeaconIndex$Vocabulary", "size", "I", false)
  | 4 => ("BeaconIndex$Vocabulary", "costs", "[[I", true)
  | 5 => ("BeaconIndex$Vocabulary", "from", "[I", true)
  | _ => ("BeaconIndex$Vocabulary", "to", "[I", true)
def xT10 : Nat → FieldType := fun k => match k with
  | 0 => .array (.long)
  | 1 => .array (.int)
  | 2 => .array (.int)
  | 3 => .int
  | 4 => .array (.array (.int))
  | 5 => .array (.int)
  | _ => .array (.int)
theorem xn10 : ∀ a, a < 7 → ∀ b, b < 7 → a ≠ b → (xF10 a).2.1 ≠ (xF10 b).2.1 := by decide +kernel
theorem xt10 : ∀ k, k < 7 → parseFieldDescriptor (xF10 k).2.2.1 = some (xT10 k) := by decide +kernel
theorem xi10 : ∀ w ∈ u_ws "BeaconIndex$Vocabulary" xF10 7, w ∈ lw_tbl := by decide +kernel
theorem xj10 : Cond.instantiable "BeaconIndex$Vocabulary" 7 ∈ lw_tbl := List.mem_append_right _ (List.mem_of_getElem? (i := 172) (by decide +kernel))
def xF11 : u_T := fun k => match k with
  | 0 => ("BeaconIndexModel", "thrown", "I", false)
  | 1 => ("BeaconIndexModel", "tape", "[I", true)
  | 2 => ("BeaconIndexModel", "size", "I", false)
  | 3 => ("BeaconIndexModel", "row", "[I", true)
  | 4 => ("BeaconIndexModel", "texts", "I", false)
  | 5 => ("BeaconIndexModel", "segments", "I", false)
  | 6 => ("BeaconIndexModel", "merges", "I", false)
  | 7 => ("BeaconIndexModel", "ends", "[I", true)
  | 8 => ("BeaconIndexModel", "key", "[I", true)
  | 9 => ("BeaconIndexModel", "shelf", "[I", true)
  | 10 => ("BeaconIndexModel", "rank", "[I", true)
  | 11 => ("BeaconIndexModel", "marked", "[Z", true)
  | 12 => ("BeaconIndexModel", "length", "[I", true)
  | 13 => ("BeaconIndexModel", "words", "[J", true)
  | 14 => ("BeaconIndexModel", "word", "J", false)
  | 15 => ("BeaconIndexModel", "letters", "[I", true)
  | 16 => ("BeaconIndexModel", "all", "[J", true)
  | 17 => ("BeaconIndexModel", "cost", "[I", true)
  | 18 => ("BeaconIndexModel", "isAsked", "Z", false)
  | 19 => ("BeaconIndexModel", "question", "LBeaconIndexModel$Question;", false)
  | 20 => ("BeaconIndexModel", "reading", "LBeaconIndexModel$Question;", false)
  | 21 => ("BeaconIndexModel", "kind", "[I", true)
  | 22 => ("BeaconIndexModel", "from", "[I", true)
  | 23 => ("BeaconIndexModel", "many", "[I", true)
  | 24 => ("BeaconIndexModel", "token", "I", false)
  | 25 => ("BeaconIndexModel", "open", "I", false)
  | 26 => ("BeaconIndexModel", "isReckoned", "Z", false)
  | 27 => ("BeaconIndexModel", "fits", "[I", true)
  | 28 => ("BeaconIndexModel", "firsts", "[I", true)
  | 29 => ("BeaconIndexModel", "rare", "[I", true)
  | 30 => ("BeaconIndexModel", "mean", "[I", true)
  | 31 => ("BeaconIndexModel", "isIn", "[Z", true)
  | 32 => ("BeaconIndexModel", "weighs", "[I", true)
  | 33 => ("BeaconIndexModel", "needs", "[I", true)
  | 34 => ("BeaconIndexModel", "has", "[I", true)
  | 35 => ("BeaconIndexModel", "lacks", "I", false)
  | 36 => ("BeaconIndexModel", "foundAt", "[I", true)
  | _ => ("BeaconIndexModel", "foundWeight", "[I", true)
def xT11 : Nat → FieldType := fun k => match k with
  | 0 => .int
  | 1 => .array (.int)
  | 2 => .int
  | 3 => .array (.int)
  | 4 => .int
  | 5 => .int
  | 6 => .int
  | 7 => .array (.int)
  | 8 => .array (.int)
  | 9 => .array (.int)
  | 10 => .array (.int)
  | 11 => .array (.boolean)
  | 12 => .array (.int)
  | 13 => .array (.long)
  | 14 => .long
  | 15 => .array (.int)
  | 16 => .array (.long)
  | 17 => .array (.int)
  | 18 => .boolean
  | 19 => .object "BeaconIndexModel$Question"
  | 20 => .object "BeaconIndexModel$Question"
  | 21 => .array (.int)
  | 22 => .array (.int)
  | 23 => .array (.int)
  | 24 => .int
  | 25 => .int
  | 26 => .boolean
  | 27 => .array (.int)
  | 28 => .array (.int)
  | 29 => .array (.int)
  | 30 => .array (.int)
  | 31 => .array (.boolean)
  | 32 => .array (.int)
  | 33 => .array (.int)
  | 34 => .array (.int)
  | 35 => .int
  | 36 => .array (.int)
  | _ => .array (.int)
theorem xn11 : ∀ a, a < 38 → ∀ b, b < 38 → a ≠ b → (xF11 a).2.1 ≠ (xF11 b).2.1 := by decide +kernel
theorem xt11 : ∀ k, k < 38 → parseFieldDescriptor (xF11 k).2.2.1 = some (xT11 k) := by decide +kernel
theorem xi11 : ∀ w ∈ u_ws "BeaconIndexModel" xF11 38, w ∈ lw_tbl := by decide +kernel
theorem xj11 : Cond.instantiable "BeaconIndexModel" 38 ∈ lw_tbl := List.mem_append_right _ (List.mem_of_getElem? (i := 1525) (by decide +kernel))
def xF12 : u_T := fun k => match k with
  | 0 => ("BeaconIndexModel$Question", "parts", "I", false)
  | 1 => ("BeaconIndexModel$Question", "inside", "[I", true)
  | 2 => ("BeaconIndexModel$Question", "sign", "[I", true)
  | 3 => ("BeaconIndexModel$Question", "times", "[I", true)
  | 4 => ("BeaconIndexModel$Question", "field", "[I", true)
  | 5 => ("BeaconIndexModel$Question", "unit", "[I", true)
  | 6 => ("BeaconIndexModel$Question", "from", "[I", true)
  | 7 => ("BeaconIndexModel$Question", "many", "[I", true)
  | 8 => ("BeaconIndexModel$Question", "runs", "[I", true)
  | 9 => ("BeaconIndexModel$Question", "near", "[I", true)
  | 10 => ("BeaconIndexModel$Question", "size", "I", false)
  | 11 => ("BeaconIndexModel$Question", "word", "[J", true)
  | _ => ("BeaconIndexModel$Question", "number", "[I", true)
def xT12 : Nat → FieldType := fun k => match k with
  | 0 => .int
  | 1 => .array (.int)
  | 2 => .array (.int)
  | 3 => .array (.int)
  | 4 => .array (.int)
  | 5 => .array (.int)
  | 6 => .array (.int)
  | 7 => .array (.int)
  | 8 => .array (.int)
  | 9 => .array (.int)
  | 10 => .int
  | 11 => .array (.long)
  | _ => .array (.int)
theorem xn12 : ∀ a, a < 13 → ∀ b, b < 13 → a ≠ b → (xF12 a).2.1 ≠ (xF12 b).2.1 := by decide +kernel
theorem xt12 : ∀ k, k < 13 → parseFieldDescriptor (xF12 k).2.2.1 = some (xT12 k) := by decide +kernel
theorem xi12 : ∀ w ∈ u_ws "BeaconIndexModel$Question" xF12 13, w ∈ lw_tbl := by decide +kernel
theorem xj12 : Cond.instantiable "BeaconIndexModel$Question" 13 ∈ lw_tbl := List.mem_append_right _ (List.mem_of_getElem? (i := 1531) (by decide +kernel))
def xF13 : u_T := fun k => match k with
  | 0 => ("java/util/ArrayList", "elementData", "[Ljava/lang/Object;", false)
  | 1 => ("java/util/ArrayList", "size", "I", false)
  | _ => ("java/util/AbstractList", "modCount", "I", false)
def xT13 : Nat → FieldType := fun k => match k with
  | 0 => .array (.object "java/lang/Object")
  | 1 => .int
  | _ => .int
theorem xn13 : ∀ a, a < 3 → ∀ b, b < 3 → a ≠ b → (xF13 a).2.1 ≠ (xF13 b).2.1 := by decide +kernel
theorem xt13 : ∀ k, k < 3 → parseFieldDescriptor (xF13 k).2.2.1 = some (xT13 k) := by decide +kernel
theorem xi13 : ∀ w ∈ u_ws "java/util/ArrayList" xF13 3, w ∈ lw_tbl := by decide +kernel
theorem xj13 : Cond.instantiable "java/util/ArrayList" 3 ∈ lw_tbl := List.mem_append_right _ (List.mem_of_getElem? (i := 88) (by decide +kernel))
def xF14 : u_T := fun k => match k with
  | 0 => ("java/lang/String", "value", "[B", true)
  | _ => ("java/lang/String", "coder", "B", true)
def xT14 : Nat → FieldType := fun k => match k with
  | 0 => .array (.byte)
  | _ => .byte
theorem xn14 : ∀ a, a < 2 → ∀ b, b < 2 → a ≠ b → (xF14 a).2.1 ≠ (xF14 b).2.1 := by decide +kernel
theorem xt14 : ∀ k, k < 2 → parseFieldDescriptor (xF14 k).2.2.1 = some (xT14 k) := by decide +kernel
theorem xi14 : ∀ w ∈ u_ws "java/lang/String" xF14 2, w ∈ lw_tbl := by decide +kernel
abbrev xCL : List vw_C := [("BeaconIndex", xF0, 7), ("BeaconIndex$Findings", xF1, 6), ("BeaconIndex$Fits", xF2, 4), ("BeaconIndex$Match", xF3, 6), ("BeaconIndex$Part", xF4, 13), ("BeaconIndex$Question", xF5, 5), ("BeaconIndex$QuestionReader", xF6, 15), ("BeaconIndex$Store", xF7, 6), ("BeaconIndex$Tape", xF8, 7), ("BeaconIndex$Text", xF9, 6), ("BeaconIndex$Vocabulary", xF10, 7), ("BeaconIndexModel", xF11, 38), ("BeaconIndexModel$Question", xF12, 13), ("java/util/ArrayList", xF13, 3), ("java/lang/String", xF14, 2)]
/-- the kind of a field -/
def xfty (t k : Nat) : Nat := match t with
  | 0 => (match k with | 5 => 1 | _ => 2)
  | 1 => (match k with | 5 => 0 | _ => 2)
  | 2 => 2
  | 3 => (match k with | 2 => 0 | 3 => 0 | 4 => 0 | 5 => 0 | _ => 2)
  | 4 => (match k with | 0 => 0 | 1 => 0 | 2 => 0 | 3 => 4 | 5 => 0 | 6 => 0 | 7 => 0 | 8 => 1 | 9 => 0 | 10 => 0 | 11 => 0 | 12 => 0 | _ => 2)
  | 5 => (match k with | 1 => 4 | 2 => 4 | 3 => 4 | 4 => 0 | _ => 2)
  | 6 => (match k with | 1 => 0 | 6 => 0 | 8 => 0 | 9 => 0 | 10 => 0 | 11 => 1 | 12 => 0 | 13 => 0 | 14 => 0 | _ => 2)
  | 7 => (match k with | 4 => 0 | 5 => 0 | _ => 2)
  | 8 => (match k with | 3 => 0 | 4 => 0 | 5 => 0 | 6 => 0 | _ => 2)
  | 9 => (match k with | 0 => 0 | 1 => 0 | 2 => 0 | 5 => 4 | _ => 2)
  | 10 => (match k with | 3 => 0 | _ => 2)
  | 11 => (match k with | 0 => 0 | 2 => 0 | 4 => 0 | 5 => 0 | 6 => 0 | 14 => 1 | 18 => 4 | 24 => 0 | 25 => 0 | 26 => 4 | 35 => 0 | _ => 2)
  | 12 => (match k with | 0 => 0 | 10 => 0 | _ => 2)
  | 13 => (match k with | 1 => 0 | 2 => 0 | _ => 2)
  | 14 => (match k with | 1 => 5 | _ => 2)
  | _ => 2
/-- the kind of an array's places, the type of its places -/
def xaty (t : Nat) : Nat := match t with | 100 => 0 | 101 => 1 | 102 => 4 | 103 => 5 | 104 => 6 | 105 => 3 | _ => 2
def xaft (t : Nat) : FieldType := match t with | 100 => .int | 101 => .long | 102 => .boolean | 103 => .byte | 104 => .char | 105 => .double | 110 => .object "java/lang/Object" | 111 => .array .int | _ => .object "java/lang/String"
def xaok (t : Nat) : Bool := [100, 101, 102, 103, 105, 110, 111, 112].contains t
theorem xfdef (t k : Nat) : True := trivial
