/-! ===== BEGIN printed: names, fields, word lists, decode rows ===== -/
def RX0 : String := "Gimlet$Cubes"
def TX0 : u_T := fun k => match k with
  | 0 => ("Gimlet$Cubes", "contained", "[I", true)
  | 1 => ("Gimlet$Cubes", "implicant", "[Z", true)
  | _ => ("Gimlet$Cubes", "joined", "[Z", true)
def tyX0 : Nat → FieldType := fun k => match k with
  | 0 => .array .int
  | 1 => .array .boolean
  | _ => .array .boolean
abbrev wsX00 : List Cond := u_ws RX0 TX0 3
theorem nmX0 : ∀ a, a < 3 → ∀ b, b < 3 → a ≠ b → (TX0 a).2.1 ≠ (TX0 b).2.1 := by decide +kernel
theorem tyX0_ok : ∀ k, k < 3 → parseFieldDescriptor (TX0 k).2.2.1 = some (tyX0 k) := by decide +kernel
abbrev cX0_init : ByteArray := prog_2_method_1_code
def yX0_init : MethodName := ⟨RX0, "<init>", "()V"⟩
abbrev cX0_tells : ByteArray := prog_2_method_2_code
def yX0_tells : MethodName := ⟨RX0, "tells", "(II)C"⟩
abbrev cX0_digitOf : ByteArray := prog_2_method_3_code
def yX0_digitOf : MethodName := ⟨RX0, "digitOf", "(II)I"⟩
abbrev cX0_weightOf : ByteArray := prog_2_method_4_code
def yX0_weightOf : MethodName := ⟨RX0, "weightOf", "(I)I"⟩
abbrev cX0_regionsIn : ByteArray := prog_2_method_5_code
def yX0_regionsIn : MethodName := ⟨RX0, "regionsIn", "(I)I"⟩
abbrev cX0_contains : ByteArray := prog_2_method_6_code
def yX0_contains : MethodName := ⟨RX0, "contains", "(II)Z"⟩
abbrev cX0_join : ByteArray := prog_2_method_7_code
def yX0_join : MethodName := ⟨RX0, "join", "(I)V"⟩
abbrev cX0_isSingle : ByteArray := prog_2_method_8_code
def yX0_isSingle : MethodName := ⟨RX0, "isSingle", "(I)Z"⟩
abbrev cX0_joinParts : ByteArray := prog_2_method_9_code
def yX0_joinParts : MethodName := ⟨RX0, "joinParts", "(II)V"⟩
abbrev cX0_countPrimes : ByteArray := prog_2_method_10_code
def yX0_countPrimes : MethodName := ⟨RX0, "countPrimes", "()I"⟩
abbrev cX0_primeAt : ByteArray := prog_2_method_11_code
def yX0_primeAt : MethodName := ⟨RX0, "primeAt", "(I)I"⟩
abbrev cX0_countByTrying : ByteArray := prog_2_method_12_code
def yX0_countByTrying : MethodName := ⟨RX0, "countByTrying", "(I)I"⟩
abbrev cX0_isInLarger : ByteArray := prog_2_method_13_code
def yX0_isInLarger : MethodName := ⟨RX0, "isInLarger", "(II)Z"⟩
abbrev cX0_isInside : ByteArray := prog_2_method_14_code
def yX0_isInside : MethodName := ⟨RX0, "isInside", "(II)Z"⟩
def RX1 : String := "Gimlet$Rewriter"
def TX1 : u_T := fun k => match k with
  | 0 => ("Gimlet$Rewriter", "now", "LGimlet$Text;", false)
  | 1 => ("Gimlet$Rewriter", "next", "LGimlet$Text;", false)
  | 2 => ("Gimlet$Rewriter", "place", "I", false)
  | _ => ("Gimlet$Rewriter", "rule", "C", false)
def tyX1 : Nat → FieldType := fun k => match k with
  | 0 => .object "Gimlet$Text"
  | 1 => .object "Gimlet$Text"
  | 2 => .int
  | _ => .char
abbrev wsX10 : List Cond := u_ws RX1 TX1 4
theorem nmX1 : ∀ a, a < 4 → ∀ b, b < 4 → a ≠ b → (TX1 a).2.1 ≠ (TX1 b).2.1 := by decide +kernel
theorem tyX1_ok : ∀ k, k < 4 → parseFieldDescriptor (TX1 k).2.2.1 = some (tyX1 k) := by decide +kernel
abbrev cX1_init : ByteArray := prog_3_method_1_code
def yX1_init : MethodName := ⟨RX1, "<init>", "()V"⟩
abbrev cX1_load : ByteArray := prog_3_method_2_code
def yX1_load : MethodName := ⟨RX1, "load", "(LGimlet$Terms;I)V"⟩
abbrev cX1_text : ByteArray := prog_3_method_3_code
def yX1_text : MethodName := ⟨RX1, "text", "()LGimlet$Text;"⟩
abbrev cX1_nextRule : ByteArray := prog_3_method_4_code
def yX1_nextRule : MethodName := ⟨RX1, "nextRule", "()C"⟩
abbrev cX1_seek : ByteArray := prog_3_method_5_code
def yX1_seek : MethodName := ⟨RX1, "seek", "()Z"⟩
abbrev cX1_ruleAt : ByteArray := prog_3_method_6_code
def yX1_ruleAt : MethodName := ⟨RX1, "ruleAt", "(I)C"⟩
abbrev cX1_ruleOfComplement : ByteArray := prog_3_method_7_code
def yX1_ruleOfComplement : MethodName := ⟨RX1, "ruleOfComplement", "(C)C"⟩
abbrev cX1_ruleOfPair : ByteArray := prog_3_method_8_code
def yX1_ruleOfPair : MethodName := ⟨RX1, "ruleOfPair", "(ICC)C"⟩
abbrev cX1_rewrite : ByteArray := prog_3_method_9_code
def yX1_rewrite : MethodName := ⟨RX1, "rewrite", "()Z"⟩
abbrev cX1_putRewritten : ByteArray := prog_3_method_10_code
def yX1_putRewritten : MethodName := ⟨RX1, "putRewritten", "(I)V"⟩
abbrev cX1_putComplements : ByteArray := prog_3_method_11_code
def yX1_putComplements : MethodName := ⟨RX1, "putComplements", "(CII)V"⟩
abbrev cX1_putDifferences : ByteArray := prog_3_method_12_code
def yX1_putDifferences : MethodName := ⟨RX1, "putDifferences", "(III)V"⟩
abbrev cX1_putOtherSide : ByteArray := prog_3_method_13_code
def yX1_putOtherSide : MethodName := ⟨RX1, "putOtherSide", "(CIII)V"⟩
abbrev cX1_constantOf : ByteArray := prog_3_method_14_code
def yX1_constantOf : MethodName := ⟨RX1, "constantOf", "(CC)C"⟩
def RX2 : String := "Gimlet$Search"
def TX2 : u_T := fun k => match k with
  | 0 => ("Gimlet$Search", "meets", "[I", true)
  | 1 => ("Gimlet$Search", "fewest", "[I", true)
  | _ => ("Gimlet$Search", "wanted", "I", false)
def tyX2 : Nat → FieldType := fun k => match k with
  | 0 => .array .int
  | 1 => .array .int
  | _ => .int
abbrev wsX20 : List Cond := u_ws RX2 TX2 3
theorem nmX2 : ∀ a, a < 3 → ∀ b, b < 3 → a ≠ b → (TX2 a).2.1 ≠ (TX2 b).2.1 := by decide +kernel
theorem tyX2_ok : ∀ k, k < 3 → parseFieldDescriptor (TX2 k).2.2.1 = some (tyX2 k) := by decide +kernel
abbrev cX2_init : ByteArray := prog_4_method_1_code
def yX2_init : MethodName := ⟨RX2, "<init>", "()V"⟩
abbrev cX2_prepare : ByteArray := prog_4_method_2_code
def yX2_prepare : MethodName := ⟨RX2, "prepare", "(LGimlet$Statements;)V"⟩
abbrev cX2_want : ByteArray := prog_4_method_3_code
def yX2_want : MethodName := ⟨RX2, "want", "(II)V"⟩
abbrev cX2_fewestBySets : ByteArray := prog_4_method_4_code
def yX2_fewestBySets : MethodName := ⟨RX2, "fewestBySets", "()I"⟩
abbrev cX2_fewestFrom : ByteArray := prog_4_method_5_code
def yX2_fewestFrom : MethodName := ⟨RX2, "fewestFrom", "(II)I"⟩
abbrev cX2_regionOf : ByteArray := prog_4_method_6_code
def yX2_regionOf : MethodName := ⟨RX2, "regionOf", "(I)I"⟩
abbrev cX2_fewestByTrying : ByteArray := prog_4_method_7_code
def yX2_fewestByTrying : MethodName := ⟨RX2, "fewestByTrying", "()I"⟩
abbrev cX2_canMeet : ByteArray := prog_4_method_8_code
def yX2_canMeet : MethodName := ⟨RX2, "canMeet", "(II)Z"⟩
def RX3 : String := "Gimlet$Statements"
def TX3 : u_T := fun k => match k with
  | 0 => ("Gimlet$Statements", "demanding", "[Z", true)
  | 1 => ("Gimlet$Statements", "places", "[I", true)
  | 2 => ("Gimlet$Statements", "count", "I", false)
  | 3 => ("Gimlet$Statements", "goalSet", "Z", false)
  | 4 => ("Gimlet$Statements", "goalDemanding", "Z", false)
  | _ => ("Gimlet$Statements", "goalPlaces", "I", false)
def tyX3 : Nat → FieldType := fun k => match k with
  | 0 => .array .boolean
  | 1 => .array .int
  | 2 => .int
  | 3 => .boolean
  | 4 => .boolean
  | _ => .int
abbrev wsX30 : List Cond := u_ws RX3 TX3 6
theorem nmX3 : ∀ a, a < 6 → ∀ b, b < 6 → a ≠ b → (TX3 a).2.1 ≠ (TX3 b).2.1 := by decide +kernel
theorem tyX3_ok : ∀ k, k < 6 → parseFieldDescriptor (TX3 k).2.2.1 = some (tyX3 k) := by decide +kernel
abbrev cX3_init : ByteArray := prog_5_method_1_code
def yX3_init : MethodName := ⟨RX3, "<init>", "()V"⟩
abbrev cX3_howMany : ByteArray := prog_5_method_2_code
def yX3_howMany : MethodName := ⟨RX3, "howMany", "()I"⟩
abbrev cX3_add : ByteArray := prog_5_method_3_code
def yX3_add : MethodName := ⟨RX3, "add", "(ZI)V"⟩
abbrev cX3_removeLast : ByteArray := prog_5_method_4_code
def yX3_removeLast : MethodName := ⟨RX3, "removeLast", "()V"⟩
abbrev cX3_demandsElement : ByteArray := prog_5_method_5_code
def yX3_demandsElement : MethodName := ⟨RX3, "demandsElement", "(I)Z"⟩
abbrev cX3_placesAt : ByteArray := prog_5_method_6_code
def yX3_placesAt : MethodName := ⟨RX3, "placesAt", "(I)I"⟩
abbrev cX3_hasGoal : ByteArray := prog_5_method_7_code
def yX3_hasGoal : MethodName := ⟨RX3, "hasGoal", "()Z"⟩
abbrev cX3_goalDemands : ByteArray := prog_5_method_8_code
def yX3_goalDemands : MethodName := ⟨RX3, "goalDemands", "()Z"⟩
abbrev cX3_goalRegions : ByteArray := prog_5_method_9_code
def yX3_goalRegions : MethodName := ⟨RX3, "goalRegions", "()I"⟩
abbrev cX3_aimAt : ByteArray := prog_5_method_10_code
def yX3_aimAt : MethodName := ⟨RX3, "aimAt", "(ZI)V"⟩
abbrev cX3_allowed : ByteArray := prog_5_method_11_code
def yX3_allowed : MethodName := ⟨RX3, "allowed", "()I"⟩
abbrev cX3_firstDenial : ByteArray := prog_5_method_12_code
def yX3_firstDenial : MethodName := ⟨RX3, "firstDenial", "(I)I"⟩
abbrev cX3_firstUnmet : ByteArray := prog_5_method_13_code
def yX3_firstUnmet : MethodName := ⟨RX3, "firstUnmet", "(I)I"⟩
abbrev cX3_haveModel : ByteArray := prog_5_method_14_code
def yX3_haveModel : MethodName := ⟨RX3, "haveModel", "()Z"⟩
abbrev cX3_firstWitness : ByteArray := prog_5_method_15_code
def yX3_firstWitness : MethodName := ⟨RX3, "firstWitness", "()I"⟩
abbrev cX3_proveGoal : ByteArray := prog_5_method_16_code
def yX3_proveGoal : MethodName := ⟨RX3, "proveGoal", "()Z"⟩
abbrev cX3_allHold : ByteArray := prog_5_method_17_code
def yX3_allHold : MethodName := ⟨RX3, "allHold", "(I)Z"⟩
abbrev cX3_countModels : ByteArray := prog_5_method_18_code
def yX3_countModels : MethodName := ⟨RX3, "countModels", "(I)J"⟩
abbrev cX3_isSetOfDemands : ByteArray := prog_5_method_19_code
def yX3_isSetOfDemands : MethodName := ⟨RX3, "isSetOfDemands", "(I)Z"⟩
abbrev cX3_placesOfSet : ByteArray := prog_5_method_20_code
def yX3_placesOfSet : MethodName := ⟨RX3, "placesOfSet", "(I)I"⟩
abbrev cX3_power : ByteArray := prog_5_method_21_code
def yX3_power : MethodName := ⟨RX3, "power", "(II)J"⟩
abbrev cX3_countModelsByTrying : ByteArray := prog_5_method_22_code
def yX3_countModelsByTrying : MethodName := ⟨RX3, "countModelsByTrying", "(I)J"⟩
abbrev cX3_occupiedBy : ByteArray := prog_5_method_23_code
def yX3_occupiedBy : MethodName := ⟨RX3, "occupiedBy", "(JI)I"⟩
def RX4 : String := "Gimlet$Terms"
def TX4 : u_T := fun k => match k with
  | 0 => ("Gimlet$Terms", "heads", "[C", true)
  | 1 => ("Gimlet$Terms", "lefts", "[I", true)
  | 2 => ("Gimlet$Terms", "rights", "[I", true)
  | 3 => ("Gimlet$Terms", "sizes", "[I", true)
  | 4 => ("Gimlet$Terms", "covered", "[I", true)
  | _ => ("Gimlet$Terms", "count", "I", false)
def tyX4 : Nat → FieldType := fun k => match k with
  | 0 => .array .char
  | 1 => .array .int
  | 2 => .array .int
  | 3 => .array .int
  | 4 => .array .int
  | _ => .int
abbrev wsX40 : List Cond := u_ws RX4 TX4 6
theorem nmX4 : ∀ a, a < 6 → ∀ b, b < 6 → a ≠ b → (TX4 a).2.1 ≠ (TX4 b).2.1 := by decide +kernel
theorem tyX4_ok : ∀ k, k < 6 → parseFieldDescriptor (TX4 k).2.2.1 = some (tyX4 k) := by decide +kernel
abbrev cX4_init : ByteArray := prog_6_method_1_code
def yX4_init : MethodName := ⟨RX4, "<init>", "()V"⟩
abbrev cX4_howMany : ByteArray := prog_6_method_2_code
def yX4_howMany : MethodName := ⟨RX4, "howMany", "()I"⟩
abbrev cX4_isKnown : ByteArray := prog_6_method_3_code
def yX4_isKnown : MethodName := ⟨RX4, "isKnown", "(I)Z"⟩
abbrev cX4_sizeOf : ByteArray := prog_6_method_4_code
def yX4_sizeOf : MethodName := ⟨RX4, "sizeOf", "(I)I"⟩
abbrev cX4_coverOf : ByteArray := prog_6_method_5_code
def yX4_coverOf : MethodName := ⟨RX4, "coverOf", "(I)I"⟩
abbrev cX4_headOf : ByteArray := prog_6_method_6_code
def yX4_headOf : MethodName := ⟨RX4, "headOf", "(I)C"⟩
abbrev cX4_leftOf : ByteArray := prog_6_method_7_code
def yX4_leftOf : MethodName := ⟨RX4, "leftOf", "(I)I"⟩
abbrev cX4_rightOf : ByteArray := prog_6_method_8_code
def yX4_rightOf : MethodName := ⟨RX4, "rightOf", "(I)I"⟩
abbrev cX4_symbolOf : ByteArray := prog_6_method_9_code
def yX4_symbolOf : MethodName := ⟨RX4, "symbolOf", "(II)C"⟩
abbrev cX4_make : ByteArray := prog_6_method_10_code
def yX4_make : MethodName := ⟨RX4, "make", "(CII)I"⟩
abbrev cX4_find : ByteArray := prog_6_method_11_code
def yX4_find : MethodName := ⟨RX4, "find", "(CII)I"⟩
abbrev cX4_coverFrom : ByteArray := prog_6_method_12_code
def yX4_coverFrom : MethodName := ⟨RX4, "coverFrom", "(CII)I"⟩
abbrev cX4_makeAll : ByteArray := prog_6_method_13_code
def yX4_makeAll : MethodName := ⟨RX4, "makeAll", "(LGimlet$Text;)I"⟩
abbrev cX4_makeNext : ByteArray := prog_6_method_14_code
def yX4_makeNext : MethodName := ⟨RX4, "makeNext", "(LGimlet$Text;I)I"⟩
abbrev cX4_reaches : ByteArray := prog_6_method_15_code
def yX4_reaches : MethodName := ⟨RX4, "reaches", "(II)Z"⟩
abbrev cX4_reachesBelow : ByteArray := prog_6_method_16_code
def yX4_reachesBelow : MethodName := ⟨RX4, "reachesBelow", "(III)Z"⟩
def RX5 : String := "Gimlet$Text"
def TX5 : u_T := fun k => match k with
  | 0 => ("Gimlet$Text", "row", "[C", true)
  | 1 => ("Gimlet$Text", "ends", "[I", true)
  | 2 => ("Gimlet$Text", "length", "I", false)
  | _ => ("Gimlet$Text", "cursor", "I", false)
def tyX5 : Nat → FieldType := fun k => match k with
  | 0 => .array .char
  | 1 => .array .int
  | 2 => .int
  | _ => .int
abbrev wsX50 : List Cond := u_ws RX5 TX5 4
theorem nmX5 : ∀ a, a < 4 → ∀ b, b < 4 → a ≠ b → (TX5 a).2.1 ≠ (TX5 b).2.1 := by decide +kernel
theorem tyX5_ok : ∀ k, k < 4 → parseFieldDescriptor (TX5 k).2.2.1 = some (tyX5 k) := by decide +kernel
abbrev cX5_init : ByteArray := prog_7_method_1_code
def yX5_init : MethodName := ⟨RX5, "<init>", "()V"⟩
abbrev cX5_partsOf : ByteArray := prog_7_method_2_code
def yX5_partsOf : MethodName := ⟨RX5, "partsOf", "(C)I"⟩
abbrev cX5_length : ByteArray := prog_7_method_3_code
def yX5_length : MethodName := ⟨RX5, "length", "()I"⟩
abbrev cX5_clear : ByteArray := prog_7_method_4_code
def yX5_clear : MethodName := ⟨RX5, "clear", "()V"⟩
abbrev cX5_rewind : ByteArray := prog_7_method_5_code
def yX5_rewind : MethodName := ⟨RX5, "rewind", "()V"⟩
abbrev cX5_read : ByteArray := prog_7_method_6_code
def yX5_read : MethodName := ⟨RX5, "read", "()C"⟩
abbrev cX5_at : ByteArray := prog_7_method_7_code
def yX5_at : MethodName := ⟨RX5, "at", "(I)C"⟩
abbrev cX5_put : ByteArray := prog_7_method_8_code
def yX5_put : MethodName := ⟨RX5, "put", "(C)V"⟩
abbrev cX5_putPart : ByteArray := prog_7_method_9_code
def yX5_putPart : MethodName := ⟨RX5, "putPart", "(LGimlet$Text;II)V"⟩
abbrev cX5_measure : ByteArray := prog_7_method_10_code
def yX5_measure : MethodName := ⟨RX5, "measure", "()V"⟩
abbrev cX5_endOf : ByteArray := prog_7_method_11_code
def yX5_endOf : MethodName := ⟨RX5, "endOf", "(I)I"⟩
abbrev cX5_isSame : ByteArray := prog_7_method_12_code
def yX5_isSame : MethodName := ⟨RX5, "isSame", "(II)Z"⟩
def RX6 : String := "Gimlet"
def TX6 : u_T := fun k => match k with
  | 0 => ("Gimlet", "known", "LGimlet$Terms;", true)
  | 1 => ("Gimlet", "rewriter", "LGimlet$Rewriter;", true)
  | 2 => ("Gimlet", "cubes", "LGimlet$Cubes;", true)
  | 3 => ("Gimlet", "stated", "LGimlet$Statements;", true)
  | _ => ("Gimlet", "search", "LGimlet$Search;", true)
def tyX6 : Nat → FieldType := fun k => match k with
  | 0 => .object "Gimlet$Terms"
  | 1 => .object "Gimlet$Rewriter"
  | 2 => .object "Gimlet$Cubes"
  | 3 => .object "Gimlet$Statements"
  | _ => .object "Gimlet$Search"
abbrev wsX60 : List Cond := u_ws RX6 TX6 5
theorem nmX6 : ∀ a, a < 5 → ∀ b, b < 5 → a ≠ b → (TX6 a).2.1 ≠ (TX6 b).2.1 := by decide +kernel
theorem tyX6_ok : ∀ k, k < 5 → parseFieldDescriptor (TX6 k).2.2.1 = some (tyX6 k) := by decide +kernel
abbrev cX6_init : ByteArray := prog_1_method_1_code
def yX6_init : MethodName := ⟨RX6, "<init>", "()V"⟩
abbrev cX6_letter : ByteArray := prog_1_method_2_code
def yX6_letter : MethodName := ⟨RX6, "letter", "(I)I"⟩
abbrev cX6_empty : ByteArray := prog_1_method_3_code
def yX6_empty : MethodName := ⟨RX6, "empty", "()I"⟩
abbrev cX6_universe : ByteArray := prog_1_method_4_code
def yX6_universe : MethodName := ⟨RX6, "universe", "()I"⟩
abbrev cX6_complement : ByteArray := prog_1_method_5_code
def yX6_complement : MethodName := ⟨RX6, "complement", "(I)I"⟩
abbrev cX6_union : ByteArray := prog_1_method_6_code
def yX6_union : MethodName := ⟨RX6, "union", "(II)I"⟩
abbrev cX6_intersection : ByteArray := prog_1_method_7_code
def yX6_intersection : MethodName := ⟨RX6, "intersection", "(II)I"⟩
abbrev cX6_difference : ByteArray := prog_1_method_8_code
def yX6_difference : MethodName := ⟨RX6, "difference", "(II)I"⟩
abbrev cX6_symmetric : ByteArray := prog_1_method_9_code
def yX6_symmetric : MethodName := ⟨RX6, "symmetric", "(II)I"⟩
abbrev cX6_terms : ByteArray := prog_1_method_10_code
def yX6_terms : MethodName := ⟨RX6, "terms", "()I"⟩
abbrev cX6_size : ByteArray := prog_1_method_11_code
def yX6_size : MethodName := ⟨RX6, "size", "(I)I"⟩
abbrev cX6_symbol : ByteArray := prog_1_method_12_code
def yX6_symbol : MethodName := ⟨RX6, "symbol", "(II)C"⟩
abbrev cX6_makePair : ByteArray := prog_1_method_13_code
def yX6_makePair : MethodName := ⟨RX6, "makePair", "(CII)I"⟩
abbrev cX6_madeOrThrow : ByteArray := prog_1_method_14_code
def yX6_madeOrThrow : MethodName := ⟨RX6, "madeOrThrow", "(I)I"⟩
abbrev cX6_checkTerm : ByteArray := prog_1_method_15_code
def yX6_checkTerm : MethodName := ⟨RX6, "checkTerm", "(I)V"⟩
abbrev cX6_checkLetter : ByteArray := prog_1_method_16_code
def yX6_checkLetter : MethodName := ⟨RX6, "checkLetter", "(I)V"⟩
abbrev cX6_checkRegion : ByteArray := prog_1_method_17_code
def yX6_checkRegion : MethodName := ⟨RX6, "checkRegion", "(I)V"⟩
abbrev cX6_regions : ByteArray := prog_1_method_18_code
def yX6_regions : MethodName := ⟨RX6, "regions", "(I)I"⟩
abbrev cX6_covers : ByteArray := prog_1_method_19_code
def yX6_covers : MethodName := ⟨RX6, "covers", "(II)Z"⟩
abbrev cX6_coversByTerm : ByteArray := prog_1_method_20_code
def yX6_coversByTerm : MethodName := ⟨RX6, "coversByTerm", "(II)Z"⟩
abbrev cX6_isEqual : ByteArray := prog_1_method_21_code
def yX6_isEqual : MethodName := ⟨RX6, "isEqual", "(II)Z"⟩
abbrev cX6_isIn : ByteArray := prog_1_method_22_code
def yX6_isIn : MethodName := ⟨RX6, "isIn", "(II)Z"⟩
abbrev cX6_rule : ByteArray := prog_1_method_23_code
def yX6_rule : MethodName := ⟨RX6, "rule", "(I)C"⟩
abbrev cX6_step : ByteArray := prog_1_method_24_code
def yX6_step : MethodName := ⟨RX6, "step", "(I)I"⟩
abbrev cX6_steps : ByteArray := prog_1_method_25_code
def yX6_steps : MethodName := ⟨RX6, "steps", "(I)I"⟩
abbrev cX6_normalForm : ByteArray := prog_1_method_26_code
def yX6_normalForm : MethodName := ⟨RX6, "normalForm", "(I)I"⟩
abbrev cX6_primes : ByteArray := prog_1_method_27_code
def yX6_primes : MethodName := ⟨RX6, "primes", "(I)I"⟩
abbrev cX6_primesByTrying : ByteArray := prog_1_method_28_code
def yX6_primesByTrying : MethodName := ⟨RX6, "primesByTrying", "(I)I"⟩
abbrev cX6_prime : ByteArray := prog_1_method_29_code
def yX6_prime : MethodName := ⟨RX6, "prime", "(III)C"⟩
abbrev cX6_ruleOrThrow : ByteArray := prog_1_method_30_code
def yX6_ruleOrThrow : MethodName := ⟨RX6, "ruleOrThrow", "()C"⟩
abbrev cX6_rewriteOrThrow : ByteArray := prog_1_method_31_code
def yX6_rewriteOrThrow : MethodName := ⟨RX6, "rewriteOrThrow", "()V"⟩
abbrev cX6_assume : ByteArray := prog_1_method_32_code
def yX6_assume : MethodName := ⟨RX6, "assume", "(CII)I"⟩
abbrev cX6_drop : ByteArray := prog_1_method_33_code
def yX6_drop : MethodName := ⟨RX6, "drop", "()I"⟩
abbrev cX6_assumptions : ByteArray := prog_1_method_34_code
def yX6_assumptions : MethodName := ⟨RX6, "assumptions", "()I"⟩
abbrev cX6_setGoal : ByteArray := prog_1_method_35_code
def yX6_setGoal : MethodName := ⟨RX6, "setGoal", "(CII)Z"⟩
abbrev cX6_isConsistent : ByteArray := prog_1_method_36_code
def yX6_isConsistent : MethodName := ⟨RX6, "isConsistent", "()Z"⟩
abbrev cX6_deniedBy : ByteArray := prog_1_method_37_code
def yX6_deniedBy : MethodName := ⟨RX6, "deniedBy", "(I)I"⟩
abbrev cX6_follows : ByteArray := prog_1_method_38_code
def yX6_follows : MethodName := ⟨RX6, "follows", "()Z"⟩
abbrev cX6_why : ByteArray := prog_1_method_39_code
def yX6_why : MethodName := ⟨RX6, "why", "()C"⟩
abbrev cX6_witness : ByteArray := prog_1_method_40_code
def yX6_witness : MethodName := ⟨RX6, "witness", "()I"⟩
abbrev cX6_checkStatement : ByteArray := prog_1_method_41_code
def yX6_checkStatement : MethodName := ⟨RX6, "checkStatement", "(CII)V"⟩
abbrev cX6_checkGoal : ByteArray := prog_1_method_42_code
def yX6_checkGoal : MethodName := ⟨RX6, "checkGoal", "()V"⟩
abbrev cX6_isDenial : ByteArray := prog_1_method_43_code
def yX6_isDenial : MethodName := ⟨RX6, "isDenial", "(C)Z"⟩
abbrev cX6_isDemand : ByteArray := prog_1_method_44_code
def yX6_isDemand : MethodName := ⟨RX6, "isDemand", "(C)Z"⟩
abbrev cX6_placesOf : ByteArray := prog_1_method_45_code
def yX6_placesOf : MethodName := ⟨RX6, "placesOf", "(CII)I"⟩
abbrev cX6_elements : ByteArray := prog_1_method_46_code
def yX6_elements : MethodName := ⟨RX6, "elements", "()I"⟩
abbrev cX6_elementsByTrying : ByteArray := prog_1_method_47_code
def yX6_elementsByTrying : MethodName := ⟨RX6, "elementsByTrying", "()I"⟩
abbrev cX6_region : ByteArray := prog_1_method_48_code
def yX6_region : MethodName := ⟨RX6, "region", "(I)I"⟩
abbrev cX6_models : ByteArray := prog_1_method_49_code
def yX6_models : MethodName := ⟨RX6, "models", "(I)J"⟩
abbrev cX6_modelsByTrying : ByteArray := prog_1_method_50_code
def yX6_modelsByTrying : MethodName := ⟨RX6, "modelsByTrying", "(I)J"⟩
abbrev cX6_density : ByteArray := prog_1_method_51_code
def yX6_density : MethodName := ⟨RX6, "density", "(I)F"⟩
abbrev cX6_leastOrThrow : ByteArray := prog_1_method_52_code
def yX6_leastOrThrow : MethodName := ⟨RX6, "leastOrThrow", "(I)I"⟩
abbrev cX6_checkElements : ByteArray := prog_1_method_53_code
def yX6_checkElements : MethodName := ⟨RX6, "checkElements", "(II)V"⟩
def RX7 : String := "GimletLaw$Draw"
def TX7 : u_T := fun k => match k with
  | _ => ("GimletLaw$Draw", "state", "I", false)
def tyX7 : Nat → FieldType := fun k => match k with
  | _ => .int
abbrev wsX70 : List Cond := u_ws RX7 TX7 1
theorem nmX7 : ∀ a, a < 1 → ∀ b, b < 1 → a ≠ b → (TX7 a).2.1 ≠ (TX7 b).2.1 := by decide +kernel
theorem tyX7_ok : ∀ k, k < 1 → parseFieldDescriptor (TX7 k).2.2.1 = some (tyX7 k) := by decide +kernel
abbrev cX7_init : ByteArray := prog_9_method_1_code
def yX7_init : MethodName := ⟨RX7, "<init>", "(I)V"⟩
abbrev cX7_next : ByteArray := prog_9_method_2_code
def yX7_next : MethodName := ⟨RX7, "next", "(I)I"⟩
def RX8 : String := "GimletModel"
def TX8 : u_T := fun k => match k with
  | _ => ("", "", "", false)
def tyX8 : Nat → FieldType := fun k => match k with
  | _ => .int
abbrev wsX80 : List Cond := u_ws RX8 TX8 0
theorem nmX8 : ∀ a, a < 0 → ∀ b, b < 0 → a ≠ b → (TX8 a).2.1 ≠ (TX8 b).2.1 := by decide +kernel
theorem tyX8_ok : ∀ k, k < 0 → parseFieldDescriptor (TX8 k).2.2.1 = some (tyX8 k) := by decide +kernel
def RJx145de : String := "java/io/Serializable"
def TJx145de : u_T := fun k => match k with
  | _ => ("", "", "", false)
def tyJx145de : Nat → FieldType := fun k => match k with
  | _ => .int
abbrev wsJx145de0 : List Cond := u_ws RJx145de TJx145de 0
theorem nmJx145de : ∀ a, a < 0 → ∀ b, b < 0 → a ≠ b → (TJx145de a).2.1 ≠ (TJx145de b).2.1 := by decide +kernel
theorem tyJx145de_ok : ∀ k, k < 0 → parseFieldDescriptor (TJx145de k).2.2.1 = some (tyJx145de k) := by decide +kernel
def RJ5 : String := "java/lang/AbstractStringBuilder"
def TJ5 : u_T := fun k => match k with
  | _ => ("", "", "", false)
def tyJ5 : Nat → FieldType := fun k => match k with
  | _ => .int
abbrev wsJ50 : List Cond := u_ws RJ5 TJ5 0
theorem nmJ5 : ∀ a, a < 0 → ∀ b, b < 0 → a ≠ b → (TJ5 a).2.1 ≠ (TJ5 b).2.1 := by decide +kernel
theorem tyJ5_ok : ∀ k, k < 0 → parseFieldDescriptor (TJ5 k).2.2.1 = some (tyJ5 k) := by decide +kernel
abbrev cJ5_init_d00df : ByteArray := prog_12_method_2_code
def yJ5_init_d00df : MethodName := ⟨RJ5, "<init>", "(I)V"⟩
abbrev cJ5_length_8abf5 : ByteArray := prog_12_method_6_code
def yJ5_length_8abf5 : MethodName := ⟨RJ5, "length", "()I"⟩
abbrev cJ5_ensureCapacityInternal_d00df : ByteArray := prog_12_method_9_code
def yJ5_ensureCapacityInternal_d00df : MethodName := ⟨RJ5, "ensureCapacityInternal", "(I)V"⟩
abbrev cJ5_newCapacity_0f7a4 : ByteArray := prog_12_method_10_code
def yJ5_newCapacity_0f7a4 : MethodName := ⟨RJ5, "newCapacity", "(I)I"⟩
abbrev cJ5_inflate_da8c8 : ByteArray := prog_12_method_11_code
def yJ5_inflate_da8c8 : MethodName := ⟨RJ5, "inflate", "()V"⟩
abbrev cJ5_append_cf1ce : ByteArray := prog_12_method_22_code
def yJ5_append_cf1ce : MethodName := ⟨RJ5, "append", "(Ljava/lang/String;)Ljava/lang/AbstractStringBuilder;"⟩
abbrev cJ5_appendNull_278bc : ByteArray := prog_12_method_26_code
def yJ5_appendNull_278bc : MethodName := ⟨RJ5, "appendNull", "()Ljava/lang/AbstractStringBuilder;"⟩
abbrev cJ5_append_34b3d : ByteArray := prog_12_method_30_code
def yJ5_append_34b3d : MethodName := ⟨RJ5, "append", "(Z)Ljava/lang/AbstractStringBuilder;"⟩
abbrev cJ5_append_3fe6f : ByteArray := prog_12_method_31_code
def yJ5_append_3fe6f : MethodName := ⟨RJ5, "append", "(C)Ljava/lang/AbstractStringBuilder;"⟩
abbrev cJ5_append_c97b9 : ByteArray := prog_12_method_32_code
def yJ5_append_c97b9 : MethodName := ⟨RJ5, "append", "(I)Ljava/lang/AbstractStringBuilder;"⟩
abbrev cJ5_append_66267 : ByteArray := prog_12_method_33_code
def yJ5_append_66267 : MethodName := ⟨RJ5, "append", "(J)Ljava/lang/AbstractStringBuilder;"⟩
abbrev cJ5_getValue_6d5f1 : ByteArray := prog_12_method_64_code
def yJ5_getValue_6d5f1 : MethodName := ⟨RJ5, "getValue", "()[B"⟩
abbrev cJ5_isLatin1_aae02 : ByteArray := prog_12_method_68_code
def yJ5_isLatin1_aae02 : MethodName := ⟨RJ5, "isLatin1", "()Z"⟩
abbrev cJ5_inflateIfNeededFor_a7421 : ByteArray := prog_12_method_71_code
def yJ5_inflateIfNeededFor_a7421 : MethodName := ⟨RJ5, "inflateIfNeededFor", "(Ljava/lang/String;)V"⟩
abbrev cJ5_putStringAt_47b60 : ByteArray := prog_12_method_73_code
def yJ5_putStringAt_47b60 : MethodName := ⟨RJ5, "putStringAt", "(ILjava/lang/String;)V"⟩
def RJx2cfe8 : String := "java/lang/Appendable"
def TJx2cfe8 : u_T := fun k => match k with
  | _ => ("", "", "", false)
def tyJx2cfe8 : Nat → FieldType := fun k => match k with
  | _ => .int
abbrev wsJx2cfe80 : List Cond := u_ws RJx2cfe8 TJx2cfe8 0
theorem nmJx2cfe8 : ∀ a, a < 0 → ∀ b, b < 0 → a ≠ b → (TJx2cfe8 a).2.1 ≠ (TJx2cfe8 b).2.1 := by decide +kernel
theorem tyJx2cfe8_ok : ∀ k, k < 0 → parseFieldDescriptor (TJx2cfe8 k).2.2.1 = some (tyJx2cfe8 k) := by decide +kernel
def RJx9f9b0 : String := "java/lang/CharSequence"
def TJx9f9b0 : u_T := fun k => match k with
  | _ => ("", "", "", false)
def tyJx9f9b0 : Nat → FieldType := fun k => match k with
  | _ => .int
abbrev wsJx9f9b00 : List Cond := u_ws RJx9f9b0 TJx9f9b0 0
theorem nmJx9f9b0 : ∀ a, a < 0 → ∀ b, b < 0 → a ≠ b → (TJx9f9b0 a).2.1 ≠ (TJx9f9b0 b).2.1 := by decide +kernel
theorem tyJx9f9b0_ok : ∀ k, k < 0 → parseFieldDescriptor (TJx9f9b0 k).2.2.1 = some (tyJx9f9b0 k) := by decide +kernel
def RJx8e188 : String := "java/lang/Cloneable"
def TJx8e188 : u_T := fun k => match k with
  | _ => ("", "", "", false)
def tyJx8e188 : Nat → FieldType := fun k => match k with
  | _ => .int
abbrev wsJx8e1880 : List Cond := u_ws RJx8e188 TJx8e188 0
theorem nmJx8e188 : ∀ a, a < 0 → ∀ b, b < 0 → a ≠ b → (TJx8e188 a).2.1 ≠ (TJx8e188 b).2.1 := by decide +kernel
theorem tyJx8e188_ok : ∀ k, k < 0 → parseFieldDescriptor (TJx8e188 k).2.2.1 = some (tyJx8e188 k) := by decide +kernel
def RJxb160c : String := "java/lang/Comparable"
def TJxb160c : u_T := fun k => match k with
  | _ => ("", "", "", false)
def tyJxb160c : Nat → FieldType := fun k => match k with
  | _ => .int
abbrev wsJxb160c0 : List Cond := u_ws RJxb160c TJxb160c 0
theorem nmJxb160c : ∀ a, a < 0 → ∀ b, b < 0 → a ≠ b → (TJxb160c a).2.1 ≠ (TJxb160c b).2.1 := by decide +kernel
theorem tyJxb160c_ok : ∀ k, k < 0 → parseFieldDescriptor (TJxb160c k).2.2.1 = some (tyJxb160c k) := by decide +kernel
def RJ6 : String := "java/lang/Integer"
def TJ6 : u_T := fun k => match k with
  | _ => ("", "", "", false)
def tyJ6 : Nat → FieldType := fun k => match k with
  | _ => .int
abbrev wsJ60 : List Cond := u_ws RJ6 TJ6 0
theorem nmJ6 : ∀ a, a < 0 → ∀ b, b < 0 → a ≠ b → (TJ6 a).2.1 ≠ (TJ6 b).2.1 := by decide +kernel
theorem tyJ6_ok : ∀ k, k < 0 → parseFieldDescriptor (TJ6 k).2.2.1 = some (tyJ6 k) := by decide +kernel
abbrev cJ6_getChars_ba4f3 : ByteArray := prog_21_method_12_code
def yJ6_getChars_ba4f3 : MethodName := ⟨RJ6, "getChars", "(II[B)I"⟩
abbrev cJ6_stringSize_0f7a4 : ByteArray := prog_21_method_13_code
def yJ6_stringSize_0f7a4 : MethodName := ⟨RJ6, "stringSize", "(I)I"⟩
abbrev cJ6_bitCount_0f7a4 : ByteArray := prog_21_method_49_code
def yJ6_bitCount_0f7a4 : MethodName := ⟨RJ6, "bitCount", "(I)I"⟩
def RJ13 : String := "java/lang/Long"
def TJ13 : u_T := fun k => match k with
  | _ => ("", "", "", false)
def tyJ13 : Nat → FieldType := fun k => match k with
  | _ => .int
abbrev wsJ130 : List Cond := u_ws RJ13 TJ13 0
theorem nmJ13 : ∀ a, a < 0 → ∀ b, b < 0 → a ≠ b → (TJ13 a).2.1 ≠ (TJ13 b).2.1 := by decide +kernel
theorem tyJ13_ok : ∀ k, k < 0 → parseFieldDescriptor (TJ13 k).2.2.1 = some (tyJ13 k) := by decide +kernel
abbrev cJ13_getChars_11360 : ByteArray := prog_22_method_14_code
def yJ13_getChars_11360 : MethodName := ⟨RJ13, "getChars", "(JI[B)I"⟩
abbrev cJ13_stringSize_95d88 : ByteArray := prog_22_method_15_code
def yJ13_stringSize_95d88 : MethodName := ⟨RJ13, "stringSize", "(J)I"⟩
def RJ9 : String := "java/lang/Math"
def TJ9 : u_T := fun k => match k with
  | _ => ("", "", "", false)
def tyJ9 : Nat → FieldType := fun k => match k with
  | _ => .int
abbrev wsJ90 : List Cond := u_ws RJ9 TJ9 0
theorem nmJ9 : ∀ a, a < 0 → ∀ b, b < 0 → a ≠ b → (TJ9 a).2.1 ≠ (TJ9 b).2.1 := by decide +kernel
theorem tyJ9_ok : ∀ k, k < 0 → parseFieldDescriptor (TJ9 k).2.2.1 = some (tyJ9 k) := by decide +kernel
abbrev cJ9_max_7cf53 : ByteArray := prog_23_method_65_code
def yJ9_max_7cf53 : MethodName := ⟨RJ9, "max", "(II)I"⟩
abbrev cJ9_min_7cf53 : ByteArray := prog_23_method_69_code
def yJ9_min_7cf53 : MethodName := ⟨RJ9, "min", "(II)I"⟩
def RJxd2413 : String := "java/lang/Number"
def TJxd2413 : u_T := fun k => match k with
  | _ => ("", "", "", false)
def tyJxd2413 : Nat → FieldType := fun k => match k with
  | _ => .int
abbrev wsJxd24130 : List Cond := u_ws RJxd2413 TJxd2413 0
theorem nmJxd2413 : ∀ a, a < 0 → ∀ b, b < 0 → a ≠ b → (TJxd2413 a).2.1 ≠ (TJxd2413 b).2.1 := by decide +kernel
theorem tyJxd2413_ok : ∀ k, k < 0 → parseFieldDescriptor (TJxd2413 k).2.2.1 = some (tyJxd2413 k) := by decide +kernel
def RJ0 : String := "java/lang/String"
def TJ0 : u_T := fun k => match k with
  | 0 => ("java/lang/String", "value", "[B", true)
  | 1 => ("java/lang/String", "coder", "B", true)
  | 2 => ("java/lang/String", "hash", "I", false)
  | _ => ("java/lang/String", "hashIsZero", "Z", false)
def tyJ0 : Nat → FieldType := fun k => match k with
  | 0 => .array .byte
  | 1 => .byte
  | 2 => .int
  | _ => .boolean
abbrev wsJ00 : List Cond := u_ws RJ0 TJ0 4
theorem nmJ0 : ∀ a, a < 4 → ∀ b, b < 4 → a ≠ b → (TJ0 a).2.1 ≠ (TJ0 b).2.1 := by decide +kernel
theorem tyJ0_ok : ∀ k, k < 4 → parseFieldDescriptor (TJ0 k).2.2.1 = some (tyJ0 k) := by decide +kernel
abbrev cJ0_init_81219 : ByteArray := prog_26_method_53_code
def yJ0_init_81219 : MethodName := ⟨RJ0, "<init>", "(Ljava/lang/StringBuilder;)V"⟩
abbrev cJ0_length_8abf5 : ByteArray := prog_26_method_54_code
def yJ0_length_8abf5 : MethodName := ⟨RJ0, "length", "()I"⟩
abbrev cJ0_charAt_5068e : ByteArray := prog_26_method_56_code
def yJ0_charAt_5068e : MethodName := ⟨RJ0, "charAt", "(I)C"⟩
abbrev cJ0_equals_9ea2d : ByteArray := prog_26_method_66_code
def yJ0_equals_9ea2d : MethodName := ⟨RJ0, "equals", "(Ljava/lang/Object;)Z"⟩
abbrev cJ0_getBytes_840e7 : ByteArray := prog_26_method_147_code
def yJ0_getBytes_840e7 : MethodName := ⟨RJ0, "getBytes", "([BIB)V"⟩
abbrev cJ0_init_db425 : ByteArray := prog_26_method_150_code
def yJ0_init_db425 : MethodName := ⟨RJ0, "<init>", "(Ljava/lang/AbstractStringBuilder;Ljava/lang/Void;)V"⟩
abbrev cJ0_coder_7d493 : ByteArray := prog_26_method_152_code
def yJ0_coder_7d493 : MethodName := ⟨RJ0, "coder", "()B"⟩
abbrev cJ0_isLatin1_aae02 : ByteArray := prog_26_method_154_code
def yJ0_isLatin1_aae02 : MethodName := ⟨RJ0, "isLatin1", "()Z"⟩
abbrev cJ0_checkIndex_df160 : ByteArray := prog_26_method_155_code
def yJ0_checkIndex_df160 : MethodName := ⟨RJ0, "checkIndex", "(II)V"⟩
abbrev cJ0_checkBoundsOffCount_cabcc : ByteArray := prog_26_method_157_code
def yJ0_checkBoundsOffCount_cabcc : MethodName := ⟨RJ0, "checkBoundsOffCount", "(III)I"⟩
abbrev cJ0_checkBoundsBeginEnd_23922 : ByteArray := prog_26_method_158_code
def yJ0_checkBoundsBeginEnd_23922 : MethodName := ⟨RJ0, "checkBoundsBeginEnd", "(III)V"⟩
def RJ4 : String := "java/lang/StringBuilder"
def TJ4 : u_T := fun k => match k with
  | 0 => ("java/lang/AbstractStringBuilder", "value", "[B", false)
  | 1 => ("java/lang/AbstractStringBuilder", "coder", "B", false)
  | 2 => ("java/lang/AbstractStringBuilder", "maybeLatin1", "Z", false)
  | _ => ("java/lang/AbstractStringBuilder", "count", "I", false)
def tyJ4 : Nat → FieldType := fun k => match k with
  | 0 => .array .byte
  | 1 => .byte
  | 2 => .boolean
  | _ => .int
abbrev wsJ40 : List Cond := u_ws RJ4 TJ4 4
theorem nmJ4 : ∀ a, a < 4 → ∀ b, b < 4 → a ≠ b → (TJ4 a).2.1 ≠ (TJ4 b).2.1 := by decide +kernel
theorem tyJ4_ok : ∀ k, k < 4 → parseFieldDescriptor (TJ4 k).2.2.1 = some (tyJ4 k) := by decide +kernel
abbrev cJ4_init_da8c8 : ByteArray := prog_27_method_1_code
def yJ4_init_da8c8 : MethodName := ⟨RJ4, "<init>", "()V"⟩
abbrev cJ4_append_15ec4 : ByteArray := prog_27_method_7_code
def yJ4_append_15ec4 : MethodName := ⟨RJ4, "append", "(Ljava/lang/String;)Ljava/lang/StringBuilder;"⟩
abbrev cJ4_append_9f485 : ByteArray := prog_27_method_13_code
def yJ4_append_9f485 : MethodName := ⟨RJ4, "append", "(Z)Ljava/lang/StringBuilder;"⟩
abbrev cJ4_append_cf468 : ByteArray := prog_27_method_14_code
def yJ4_append_cf468 : MethodName := ⟨RJ4, "append", "(C)Ljava/lang/StringBuilder;"⟩
abbrev cJ4_append_bf812 : ByteArray := prog_27_method_15_code
def yJ4_append_bf812 : MethodName := ⟨RJ4, "append", "(I)Ljava/lang/StringBuilder;"⟩
abbrev cJ4_append_f7089 : ByteArray := prog_27_method_16_code
def yJ4_append_f7089 : MethodName := ⟨RJ4, "append", "(J)Ljava/lang/StringBuilder;"⟩
abbrev cJ4_toString_0e30d : ByteArray := prog_27_method_42_code
def yJ4_toString_0e30d : MethodName := ⟨RJ4, "toString", "()Ljava/lang/String;"⟩
abbrev cJ4_length_8abf5 : ByteArray := prog_27_method_93_code
def yJ4_length_8abf5 : MethodName := ⟨RJ4, "length", "()I"⟩
def RJ1 : String := "java/lang/StringLatin1"
def TJ1 : u_T := fun k => match k with
  | _ => ("", "", "", false)
def tyJ1 : Nat → FieldType := fun k => match k with
  | _ => .int
abbrev wsJ10 : List Cond := u_ws RJ1 TJ1 0
theorem nmJ1 : ∀ a, a < 0 → ∀ b, b < 0 → a ≠ b → (TJ1 a).2.1 ≠ (TJ1 b).2.1 := by decide +kernel
theorem tyJ1_ok : ∀ k, k < 0 → parseFieldDescriptor (TJ1 k).2.2.1 = some (tyJ1 k) := by decide +kernel
abbrev cJ1_charAt_3b067 : ByteArray := prog_28_method_2_code
def yJ1_charAt_3b067 : MethodName := ⟨RJ1, "charAt", "([BI)C"⟩
abbrev cJ1_canEncode_fc78d : ByteArray := prog_28_method_3_code
def yJ1_canEncode_fc78d : MethodName := ⟨RJ1, "canEncode", "(C)Z"⟩
abbrev cJ1_equals_b5fdf : ByteArray := prog_28_method_13_code
def yJ1_equals_b5fdf : MethodName := ⟨RJ1, "equals", "([B[B)Z"⟩
abbrev cJ1_inflate_0e8fd : ByteArray := prog_28_method_50_code
def yJ1_inflate_0e8fd : MethodName := ⟨RJ1, "inflate", "([BI[BII)V"⟩
def RJ2 : String := "java/lang/StringUTF16"
def TJ2 : u_T := fun k => match k with
  | _ => ("", "", "", false)
def tyJ2 : Nat → FieldType := fun k => match k with
  | _ => .int
abbrev wsJ20 : List Cond := u_ws RJ2 TJ2 0
theorem nmJ2 : ∀ a, a < 0 → ∀ b, b < 0 → a ≠ b → (TJ2 a).2.1 ≠ (TJ2 b).2.1 := by decide +kernel
theorem tyJ2_ok : ∀ k, k < 0 → parseFieldDescriptor (TJ2 k).2.2.1 = some (tyJ2 k) := by decide +kernel
abbrev cJ2_newBytesFor_77867 : ByteArray := prog_29_method_2_code
def yJ2_newBytesFor_77867 : MethodName := ⟨RJ2, "newBytesFor", "(I)[B"⟩
abbrev cJ2_newBytesLength_0f7a4 : ByteArray := prog_29_method_3_code
def yJ2_newBytesLength_0f7a4 : MethodName := ⟨RJ2, "newBytesLength", "(I)I"⟩
abbrev cJ2_putChar_b72d1 : ByteArray := prog_29_method_4_code
def yJ2_putChar_b72d1 : MethodName := ⟨RJ2, "putChar", "([BII)V"⟩
abbrev cJ2_getChar_3b067 : ByteArray := prog_29_method_5_code
def yJ2_getChar_3b067 : MethodName := ⟨RJ2, "getChar", "([BI)C"⟩
abbrev cJ2_length_9d52b : ByteArray := prog_29_method_6_code
def yJ2_length_9d52b : MethodName := ⟨RJ2, "length", "([B)I"⟩
abbrev cJ2_coderFromArrayLen_85cad : ByteArray := prog_29_method_15_code
def yJ2_coderFromArrayLen_85cad : MethodName := ⟨RJ2, "coderFromArrayLen", "([BI)B"⟩
abbrev cJ2_compress_39247 : ByteArray := prog_29_method_17_code
def yJ2_compress_39247 : MethodName := ⟨RJ2, "compress", "([BII)[B"⟩
abbrev cJ2_compress_5af95 : ByteArray := prog_29_method_22_code
def yJ2_compress_5af95 : MethodName := ⟨RJ2, "compress", "([BI[BII)I"⟩
abbrev cJ2_putCharSB_b72d1 : ByteArray := prog_29_method_71_code
def yJ2_putCharSB_b72d1 : MethodName := ⟨RJ2, "putCharSB", "([BII)V"⟩
abbrev cJ2_getChars_46870 : ByteArray := prog_29_method_77_code
def yJ2_getChars_46870 : MethodName := ⟨RJ2, "getChars", "(III[B)I"⟩
abbrev cJ2_getChars_1ba55 : ByteArray := prog_29_method_78_code
def yJ2_getChars_1ba55 : MethodName := ⟨RJ2, "getChars", "(JII[B)I"⟩
abbrev cJ2_putCharsAt_cd4e5 : ByteArray := prog_29_method_81_code
def yJ2_putCharsAt_cd4e5 : MethodName := ⟨RJ2, "putCharsAt", "([BICCCC)I"⟩
abbrev cJ2_putCharsAt_1b622 : ByteArray := prog_29_method_82_code
def yJ2_putCharsAt_1b622 : MethodName := ⟨RJ2, "putCharsAt", "([BICCCCC)I"⟩
abbrev cJ2_charAt_3b067 : ByteArray := prog_29_method_83_code
def yJ2_charAt_3b067 : MethodName := ⟨RJ2, "charAt", "([BI)C"⟩
abbrev cJ2_inflate_0e8fd : ByteArray := prog_29_method_86_code
def yJ2_inflate_0e8fd : MethodName := ⟨RJ2, "inflate", "([BI[BII)V"⟩
abbrev cJ2_getChars_ba4f3 : ByteArray := prog_29_method_89_code
def yJ2_getChars_ba4f3 : MethodName := ⟨RJ2, "getChars", "(II[B)I"⟩
abbrev cJ2_getChars_11360 : ByteArray := prog_29_method_90_code
def yJ2_getChars_11360 : MethodName := ⟨RJ2, "getChars", "(JI[B)I"⟩
abbrev cJ2_checkIndex_2214a : ByteArray := prog_29_method_91_code
def yJ2_checkIndex_2214a : MethodName := ⟨RJ2, "checkIndex", "(I[B)V"⟩
abbrev cJ2_checkBoundsBeginEnd_d044e : ByteArray := prog_29_method_93_code
def yJ2_checkBoundsBeginEnd_d044e : MethodName := ⟨RJ2, "checkBoundsBeginEnd", "(II[B)V"⟩
abbrev cJ2_checkBoundsOffCount_d044e : ByteArray := prog_29_method_94_code
def yJ2_checkBoundsOffCount_d044e : MethodName := ⟨RJ2, "checkBoundsOffCount", "(II[B)V"⟩
def RJ10 : String := "java/lang/System"
def TJ10 : u_T := fun k => match k with
  | _ => ("", "", "", false)
def tyJ10 : Nat → FieldType := fun k => match k with
  | _ => .int
abbrev wsJ100 : List Cond := u_ws RJ10 TJ10 0
theorem nmJ10 : ∀ a, a < 0 → ∀ b, b < 0 → a ≠ b → (TJ10 a).2.1 ≠ (TJ10 b).2.1 := by decide +kernel
theorem tyJ10_ok : ∀ k, k < 0 → parseFieldDescriptor (TJ10 k).2.2.1 = some (tyJ10 k) := by decide +kernel
def RJxfd54e : String := "java/lang/constant/Constable"
def TJxfd54e : u_T := fun k => match k with
  | _ => ("", "", "", false)
def tyJxfd54e : Nat → FieldType := fun k => match k with
  | _ => .int
abbrev wsJxfd54e0 : List Cond := u_ws RJxfd54e TJxfd54e 0
theorem nmJxfd54e : ∀ a, a < 0 → ∀ b, b < 0 → a ≠ b → (TJxfd54e a).2.1 ≠ (TJxfd54e b).2.1 := by decide +kernel
theorem tyJxfd54e_ok : ∀ k, k < 0 → parseFieldDescriptor (TJxfd54e k).2.2.1 = some (tyJxfd54e k) := by decide +kernel
def RJx3cf43 : String := "java/lang/constant/ConstantDesc"
def TJx3cf43 : u_T := fun k => match k with
  | _ => ("", "", "", false)
def tyJx3cf43 : Nat → FieldType := fun k => match k with
  | _ => .int
abbrev wsJx3cf430 : List Cond := u_ws RJx3cf43 TJx3cf43 0
theorem nmJx3cf43 : ∀ a, a < 0 → ∀ b, b < 0 → a ≠ b → (TJx3cf43 a).2.1 ≠ (TJx3cf43 b).2.1 := by decide +kernel
theorem tyJx3cf43_ok : ∀ k, k < 0 → parseFieldDescriptor (TJx3cf43 k).2.2.1 = some (tyJx3cf43 k) := by decide +kernel
def RJ7 : String := "java/util/Arrays"
def TJ7 : u_T := fun k => match k with
  | _ => ("", "", "", false)
def tyJ7 : Nat → FieldType := fun k => match k with
  | _ => .int
abbrev wsJ70 : List Cond := u_ws RJ7 TJ7 0
theorem nmJ7 : ∀ a, a < 0 → ∀ b, b < 0 → a ≠ b → (TJ7 a).2.1 ≠ (TJ7 b).2.1 := by decide +kernel
theorem tyJ7_ok : ∀ k, k < 0 → parseFieldDescriptor (TJ7 k).2.2.1 = some (tyJ7 k) := by decide +kernel
abbrev cJ7_copyOf_9075b : ByteArray := prog_35_method_121_code
def yJ7_copyOf_9075b : MethodName := ⟨RJ7, "copyOf", "([BI)[B"⟩
abbrev cJ7_checkLength_df160 : ByteArray := prog_35_method_131_code
def yJ7_checkLength_df160 : MethodName := ⟨RJ7, "checkLength", "(II)V"⟩
abbrev cJ7_copyOfRange_39247 : ByteArray := prog_35_method_132_code
def yJ7_copyOfRange_39247 : MethodName := ⟨RJ7, "copyOfRange", "([BII)[B"⟩
abbrev cJ7_copyOfRangeByte_39247 : ByteArray := prog_35_method_133_code
def yJ7_copyOfRangeByte_39247 : MethodName := ⟨RJ7, "copyOfRangeByte", "([BII)[B"⟩
def RJ8 : String := "jdk/internal/util/ArraysSupport"
def TJ8 : u_T := fun k => match k with
  | _ => ("", "", "", false)
def tyJ8 : Nat → FieldType := fun k => match k with
  | _ => .int
abbrev wsJ80 : List Cond := u_ws RJ8 TJ8 0
theorem nmJ8 : ∀ a, a < 0 → ∀ b, b < 0 → a ≠ b → (TJ8 a).2.1 ≠ (TJ8 b).2.1 := by decide +kernel
theorem tyJ8_ok : ∀ k, k < 0 → parseFieldDescriptor (TJ8 k).2.2.1 = some (tyJ8 k) := by decide +kernel
abbrev cJ8_newLength_cabcc : ByteArray := prog_37_method_27_code
def yJ8_newLength_cabcc : MethodName := ⟨RJ8, "newLength", "(III)I"⟩
abbrev cJ8_hugeLength_7cf53 : ByteArray := prog_37_method_28_code
def yJ8_hugeLength_7cf53 : MethodName := ⟨RJ8, "hugeLength", "(II)I"⟩
def RJ3 : String := "jdk/internal/util/Preconditions"
def TJ3 : u_T := fun k => match k with
  | _ => ("", "", "", false)
def tyJ3 : Nat → FieldType := fun k => match k with
  | _ => .int
abbrev wsJ30 : List Cond := u_ws RJ3 TJ3 0
theorem nmJ3 : ∀ a, a < 0 → ∀ b, b < 0 → a ≠ b → (TJ3 a).2.1 ≠ (TJ3 b).2.1 := by decide +kernel
theorem tyJ3_ok : ∀ k, k < 0 → parseFieldDescriptor (TJ3 k).2.2.1 = some (tyJ3 k) := by decide +kernel
abbrev cJ3_checkIndex_8e157 : ByteArray := prog_38_method_11_code
def yJ3_checkIndex_8e157 : MethodName := ⟨RJ3, "checkIndex", "(IILjava/util/function/BiFunction;)I"⟩
abbrev cJ3_checkFromToIndex_8c36e : ByteArray := prog_38_method_12_code
def yJ3_checkFromToIndex_8c36e : MethodName := ⟨RJ3, "checkFromToIndex", "(IIILjava/util/function/BiFunction;)I"⟩
abbrev cJ3_checkFromIndexSize_8c36e : ByteArray := prog_38_method_13_code
def yJ3_checkFromIndexSize_8c36e : MethodName := ⟨RJ3, "checkFromIndexSize", "(IIILjava/util/function/BiFunction;)I"⟩
def RL : String := "GimletLaw"
abbrev cL_cell : ByteArray := method_2_code
def yL_cell : MethodName := ⟨RL, "cell", "([II)I"⟩
abbrev cL_letter : ByteArray := method_3_code
def yL_letter : MethodName := ⟨RL, "letter", "(LGimlet;I)I"⟩
abbrev cL_empty : ByteArray := method_4_code
def yL_empty : MethodName := ⟨RL, "empty", "(LGimlet;)I"⟩
abbrev cL_universe : ByteArray := method_5_code
def yL_universe : MethodName := ⟨RL, "universe", "(LGimlet;)I"⟩
abbrev cL_complement : ByteArray := method_6_code
def yL_complement : MethodName := ⟨RL, "complement", "(LGimlet;I)I"⟩
abbrev cL_union : ByteArray := method_7_code
def yL_union : MethodName := ⟨RL, "union", "(LGimlet;II)I"⟩
abbrev cL_intersection : ByteArray := method_8_code
def yL_intersection : MethodName := ⟨RL, "intersection", "(LGimlet;II)I"⟩
abbrev cL_difference : ByteArray := method_9_code
def yL_difference : MethodName := ⟨RL, "difference", "(LGimlet;II)I"⟩
abbrev cL_symmetric : ByteArray := method_10_code
def yL_symmetric : MethodName := ⟨RL, "symmetric", "(LGimlet;II)I"⟩
abbrev cL_size : ByteArray := method_11_code
def yL_size : MethodName := ⟨RL, "size", "(LGimlet;I)I"⟩
abbrev cL_symbol : ByteArray := method_12_code
def yL_symbol : MethodName := ⟨RL, "symbol", "(LGimlet;II)I"⟩
abbrev cL_regions : ByteArray := method_13_code
def yL_regions : MethodName := ⟨RL, "regions", "(LGimlet;I)I"⟩
abbrev cL_covers : ByteArray := method_14_code
def yL_covers : MethodName := ⟨RL, "covers", "(LGimlet;II)I"⟩
abbrev cL_coversByTerm : ByteArray := method_15_code
def yL_coversByTerm : MethodName := ⟨RL, "coversByTerm", "(LGimlet;II)I"⟩
abbrev cL_isEqual : ByteArray := method_16_code
def yL_isEqual : MethodName := ⟨RL, "isEqual", "(LGimlet;II)I"⟩
abbrev cL_rule : ByteArray := method_17_code
def yL_rule : MethodName := ⟨RL, "rule", "(LGimlet;I)I"⟩
abbrev cL_step : ByteArray := method_18_code
def yL_step : MethodName := ⟨RL, "step", "(LGimlet;I)I"⟩
abbrev cL_steps : ByteArray := method_19_code
def yL_steps : MethodName := ⟨RL, "steps", "(LGimlet;I)I"⟩
abbrev cL_normalForm : ByteArray := method_20_code
def yL_normalForm : MethodName := ⟨RL, "normalForm", "(LGimlet;I)I"⟩
abbrev cL_primes : ByteArray := method_21_code
def yL_primes : MethodName := ⟨RL, "primes", "(LGimlet;I)I"⟩
abbrev cL_primesByTrying : ByteArray := method_22_code
def yL_primesByTrying : MethodName := ⟨RL, "primesByTrying", "(LGimlet;I)I"⟩
abbrev cL_prime : ByteArray := method_23_code
def yL_prime : MethodName := ⟨RL, "prime", "(LGimlet;III)I"⟩
abbrev cL_assume : ByteArray := method_24_code
def yL_assume : MethodName := ⟨RL, "assume", "(LGimlet;CII)I"⟩
abbrev cL_drop : ByteArray := method_25_code
def yL_drop : MethodName := ⟨RL, "drop", "(LGimlet;)I"⟩
abbrev cL_setGoal : ByteArray := method_26_code
def yL_setGoal : MethodName := ⟨RL, "setGoal", "(LGimlet;CII)I"⟩
abbrev cL_deniedBy : ByteArray := method_27_code
def yL_deniedBy : MethodName := ⟨RL, "deniedBy", "(LGimlet;I)I"⟩
abbrev cL_follows : ByteArray := method_28_code
def yL_follows : MethodName := ⟨RL, "follows", "(LGimlet;)I"⟩
abbrev cL_why : ByteArray := method_29_code
def yL_why : MethodName := ⟨RL, "why", "(LGimlet;)I"⟩
abbrev cL_witness : ByteArray := method_30_code
def yL_witness : MethodName := ⟨RL, "witness", "(LGimlet;)I"⟩
abbrev cL_elements : ByteArray := method_31_code
def yL_elements : MethodName := ⟨RL, "elements", "(LGimlet;)I"⟩
abbrev cL_elementsByTrying : ByteArray := method_32_code
def yL_elementsByTrying : MethodName := ⟨RL, "elementsByTrying", "(LGimlet;)I"⟩
abbrev cL_region : ByteArray := method_33_code
def yL_region : MethodName := ⟨RL, "region", "(LGimlet;I)I"⟩
abbrev cL_models : ByteArray := method_34_code
def yL_models : MethodName := ⟨RL, "models", "(LGimlet;I)J"⟩
abbrev cL_modelsByTrying : ByteArray := method_35_code
def yL_modelsByTrying : MethodName := ⟨RL, "modelsByTrying", "(LGimlet;I)J"⟩
abbrev cL_density : ByteArray := method_36_code
def yL_density : MethodName := ⟨RL, "density", "(LGimlet;I)F"⟩
abbrev cL_acts : ByteArray := method_37_code
def yL_acts : MethodName := ⟨RL, "acts", "(LGimlet;ILGimletLaw$Draw;)I"⟩
abbrev cL_told : ByteArray := method_38_code
def yL_told : MethodName := ⟨RL, "told", "(LGimlet;)Ljava/lang/String;"⟩
abbrev cL_stock : ByteArray := method_39_code
def yL_stock : MethodName := ⟨RL, "stock", "(LGimlet;)I"⟩
abbrev cL_term : ByteArray := method_40_code
def yL_term : MethodName := ⟨RL, "term", "(LGimlet;I)Z"⟩
abbrev cL_implicants : ByteArray := method_41_code
def yL_implicants : MethodName := ⟨RL, "implicants", "(LGimlet;I)Z"⟩
abbrev cL_cube : ByteArray := method_42_code
def yL_cube : MethodName := ⟨RL, "cube", "(LGimlet;III)I"⟩
abbrev cL_proved : ByteArray := method_43_code
def yL_proved : MethodName := ⟨RL, "proved", "(LGimlet;)Z"⟩
abbrev cL_law : ByteArray := code
def yL_law : MethodName := ⟨RL, "law", "([I)Z"⟩
abbrev vwCl : List vw_C := [(RX0, TX0, 3), (RX1, TX1, 4), (RX2, TX2, 3), (RX3, TX3, 6), (RX4, TX4, 6), (RX5, TX5, 4), (RX6, TX6, 5), (RX7, TX7, 1), (RJ0, TJ0, 4), (RJ4, TJ4, 4)]
