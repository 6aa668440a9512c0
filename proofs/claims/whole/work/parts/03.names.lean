/-! ===== BEGIN printed: names, fields, word lists, decode rows ===== -/
def RX0 : String := "SturmRoots$Algebra"
def TX0 : u_T := fun k => match k with
  | 0 => ("SturmRoots$Algebra", "larger", "LSturmRoots$Big;", true)
  | 1 => ("SturmRoots$Algebra", "smaller", "LSturmRoots$Big;", true)
  | 2 => ("SturmRoots$Algebra", "scaled", "LSturmRoots$Big;", true)
  | 3 => ("SturmRoots$Algebra", "quotient", "LSturmRoots$Big;", true)
  | 4 => ("SturmRoots$Algebra", "content", "LSturmRoots$Big;", true)
  | 5 => ("SturmRoots$Algebra", "leadSize", "LSturmRoots$Big;", true)
  | 6 => ("SturmRoots$Algebra", "factor", "LSturmRoots$Big;", true)
  | 7 => ("SturmRoots$Algebra", "product", "LSturmRoots$Big;", true)
  | 8 => ("SturmRoots$Algebra", "value", "LSturmRoots$Big;", true)
  | 9 => ("SturmRoots$Algebra", "scale", "LSturmRoots$Big;", true)
  | 10 => ("SturmRoots$Algebra", "left", "LSturmRoots$Polynomial;", true)
  | 11 => ("SturmRoots$Algebra", "right", "LSturmRoots$Polynomial;", true)
  | 12 => ("SturmRoots$Algebra", "slope", "LSturmRoots$Polynomial;", true)
  | _ => ("SturmRoots$Algebra", "repeated", "LSturmRoots$Polynomial;", true)
def tyX0 : Nat → FieldType := fun k => match k with
  | 0 => .object "SturmRoots$Big"
  | 1 => .object "SturmRoots$Big"
  | 2 => .object "SturmRoots$Big"
  | 3 => .object "SturmRoots$Big"
  | 4 => .object "SturmRoots$Big"
  | 5 => .object "SturmRoots$Big"
  | 6 => .object "SturmRoots$Big"
  | 7 => .object "SturmRoots$Big"
  | 8 => .object "SturmRoots$Big"
  | 9 => .object "SturmRoots$Big"
  | 10 => .object "SturmRoots$Polynomial"
  | 11 => .object "SturmRoots$Polynomial"
  | 12 => .object "SturmRoots$Polynomial"
  | _ => .object "SturmRoots$Polynomial"
abbrev wsX00 : List Cond := u_ws RX0 TX0 14
theorem nmX0 : ∀ a, a < 14 → ∀ b, b < 14 → a ≠ b → (TX0 a).2.1 ≠ (TX0 b).2.1 := by decide +kernel
theorem tyX0_ok : ∀ k, k < 14 → parseFieldDescriptor (TX0 k).2.2.1 = some (tyX0 k) := by decide +kernel
abbrev cX0_init : ByteArray := prog_2_method_1_code
def yX0_init : MethodName := ⟨RX0, "<init>", "()V"⟩
abbrev cX0_writeCommonFactor : ByteArray := prog_2_method_2_code
def yX0_writeCommonFactor : MethodName := ⟨RX0, "writeCommonFactor", "(LSturmRoots$Big;LSturmRoots$Big;LSturmRoots$Big;)V"⟩
abbrev cX0_commonFactor : ByteArray := prog_2_method_3_code
def yX0_commonFactor : MethodName := ⟨RX0, "commonFactor", "(JJ)J"⟩
abbrev cX0_divideExactly : ByteArray := prog_2_method_4_code
def yX0_divideExactly : MethodName := ⟨RX0, "divideExactly", "(LSturmRoots$Big;LSturmRoots$Big;)V"⟩
abbrev cX0_makePrimitive : ByteArray := prog_2_method_5_code
def yX0_makePrimitive : MethodName := ⟨RX0, "makePrimitive", "(LSturmRoots$Polynomial;)V"⟩
abbrev cX0_reduce : ByteArray := prog_2_method_6_code
def yX0_reduce : MethodName := ⟨RX0, "reduce", "(LSturmRoots$Polynomial;LSturmRoots$Polynomial;)V"⟩
abbrev cX0_combine : ByteArray := prog_2_method_7_code
def yX0_combine : MethodName := ⟨RX0, "combine", "(LSturmRoots$Big;LSturmRoots$Big;)V"⟩
abbrev cX0_writeCommonDivisor : ByteArray := prog_2_method_8_code
def yX0_writeCommonDivisor : MethodName := ⟨RX0, "writeCommonDivisor", "(LSturmRoots$Polynomial;LSturmRoots$Polynomial;LSturmRoots$Polynomial;)V"⟩
abbrev cX0_writeRepeated : ByteArray := prog_2_method_9_code
def yX0_writeRepeated : MethodName := ⟨RX0, "writeRepeated", "(LSturmRoots$Polynomial;LSturmRoots$Polynomial;)V"⟩
abbrev cX0_writeQuotient : ByteArray := prog_2_method_10_code
def yX0_writeQuotient : MethodName := ⟨RX0, "writeQuotient", "(LSturmRoots$Polynomial;LSturmRoots$Polynomial;LSturmRoots$Polynomial;)V"⟩
abbrev cX0_writeSquareFree : ByteArray := prog_2_method_11_code
def yX0_writeSquareFree : MethodName := ⟨RX0, "writeSquareFree", "(LSturmRoots$Polynomial;LSturmRoots$Polynomial;)V"⟩
abbrev cX0_writeSturm : ByteArray := prog_2_method_12_code
def yX0_writeSturm : MethodName := ⟨RX0, "writeSturm", "(LSturmRoots$Polynomial;LSturmRoots$Sequence;)V"⟩
abbrev cX0_signAt : ByteArray := prog_2_method_13_code
def yX0_signAt : MethodName := ⟨RX0, "signAt", "(LSturmRoots$Polynomial;II)I"⟩
abbrev cX0_changesAt : ByteArray := prog_2_method_14_code
def yX0_changesAt : MethodName := ⟨RX0, "changesAt", "(LSturmRoots$Sequence;II)I"⟩
abbrev cX0_rootsInside : ByteArray := prog_2_method_15_code
def yX0_rootsInside : MethodName := ⟨RX0, "rootsInside", "(LSturmRoots$Sequence;III)I"⟩
abbrev cX0_isRoot : ByteArray := prog_2_method_16_code
def yX0_isRoot : MethodName := ⟨RX0, "isRoot", "(LSturmRoots$Sequence;II)Z"⟩
def RX1 : String := "SturmRoots$Big"
def TX1 : u_T := fun k => match k with
  | 0 => ("SturmRoots$Big", "limbs", "[I", true)
  | 1 => ("SturmRoots$Big", "length", "I", false)
  | _ => ("SturmRoots$Big", "negative", "Z", false)
def tyX1 : Nat → FieldType := fun k => match k with
  | 0 => .array .int
  | 1 => .int
  | _ => .boolean
abbrev wsX10 : List Cond := u_ws RX1 TX1 3
theorem nmX1 : ∀ a, a < 3 → ∀ b, b < 3 → a ≠ b → (TX1 a).2.1 ≠ (TX1 b).2.1 := by decide +kernel
theorem tyX1_ok : ∀ k, k < 3 → parseFieldDescriptor (TX1 k).2.2.1 = some (tyX1 k) := by decide +kernel
abbrev cX1_init : ByteArray := prog_3_method_1_code
def yX1_init : MethodName := ⟨RX1, "<init>", "()V"⟩
abbrev cX1_isZero : ByteArray := prog_3_method_2_code
def yX1_isZero : MethodName := ⟨RX1, "isZero", "()Z"⟩
abbrev cX1_isOne : ByteArray := prog_3_method_3_code
def yX1_isOne : MethodName := ⟨RX1, "isOne", "()Z"⟩
abbrev cX1_signum : ByteArray := prog_3_method_4_code
def yX1_signum : MethodName := ⟨RX1, "signum", "()I"⟩
abbrev cX1_lowestBits : ByteArray := prog_3_method_5_code
def yX1_lowestBits : MethodName := ⟨RX1, "lowestBits", "()J"⟩
abbrev cX1_clear : ByteArray := prog_3_method_6_code
def yX1_clear : MethodName := ⟨RX1, "clear", "()V"⟩
abbrev cX1_becomeValue : ByteArray := prog_3_method_7_code
def yX1_becomeValue : MethodName := ⟨RX1, "becomeValue", "(J)V"⟩
abbrev cX1_become : ByteArray := prog_3_method_8_code
def yX1_become : MethodName := ⟨RX1, "become", "(LSturmRoots$Big;)V"⟩
abbrev cX1_becomeMagnitude : ByteArray := prog_3_method_9_code
def yX1_becomeMagnitude : MethodName := ⟨RX1, "becomeMagnitude", "(LSturmRoots$Big;)V"⟩
abbrev cX1_becomeProduct : ByteArray := prog_3_method_10_code
def yX1_becomeProduct : MethodName := ⟨RX1, "becomeProduct", "(LSturmRoots$Big;LSturmRoots$Big;)V"⟩
abbrev cX1_flipSign : ByteArray := prog_3_method_11_code
def yX1_flipSign : MethodName := ⟨RX1, "flipSign", "()V"⟩
abbrev cX1_plus : ByteArray := prog_3_method_12_code
def yX1_plus : MethodName := ⟨RX1, "plus", "(LSturmRoots$Big;)V"⟩
abbrev cX1_multiplyBy : ByteArray := prog_3_method_13_code
def yX1_multiplyBy : MethodName := ⟨RX1, "multiplyBy", "(I)V"⟩
abbrev cX1_magnify : ByteArray := prog_3_method_14_code
def yX1_magnify : MethodName := ⟨RX1, "magnify", "(J)V"⟩
abbrev cX1_reduceBy : ByteArray := prog_3_method_15_code
def yX1_reduceBy : MethodName := ⟨RX1, "reduceBy", "(LSturmRoots$Big;LSturmRoots$Big;LSturmRoots$Big;)V"⟩
abbrev cX1_divideBy : ByteArray := prog_3_method_16_code
def yX1_divideBy : MethodName := ⟨RX1, "divideBy", "(I)V"⟩
abbrev cX1_addMultiple : ByteArray := prog_3_method_17_code
def yX1_addMultiple : MethodName := ⟨RX1, "addMultiple", "(LSturmRoots$Big;IJ)J"⟩
abbrev cX1_complement : ByteArray := prog_3_method_18_code
def yX1_complement : MethodName := ⟨RX1, "complement", "(I)V"⟩
abbrev cX1_settle : ByteArray := prog_3_method_19_code
def yX1_settle : MethodName := ⟨RX1, "settle", "(I)V"⟩
def RX2 : String := "SturmRoots$Interval"
def TX2 : u_T := fun k => match k with
  | 0 => ("SturmRoots$Interval", "level", "I", false)
  | 1 => ("SturmRoots$Interval", "low", "I", false)
  | 2 => ("SturmRoots$Interval", "high", "I", false)
  | _ => ("SturmRoots$Interval", "roots", "I", false)
def tyX2 : Nat → FieldType := fun k => match k with
  | 0 => .int
  | 1 => .int
  | 2 => .int
  | _ => .int
abbrev wsX20 : List Cond := u_ws RX2 TX2 4
theorem nmX2 : ∀ a, a < 4 → ∀ b, b < 4 → a ≠ b → (TX2 a).2.1 ≠ (TX2 b).2.1 := by decide +kernel
theorem tyX2_ok : ∀ k, k < 4 → parseFieldDescriptor (TX2 k).2.2.1 = some (tyX2 k) := by decide +kernel
abbrev cX2_init : ByteArray := prog_4_method_1_code
def yX2_init : MethodName := ⟨RX2, "<init>", "()V"⟩
abbrev cX2_become : ByteArray := prog_4_method_2_code
def yX2_become : MethodName := ⟨RX2, "become", "(IIII)V"⟩
abbrev cX2_isPoint : ByteArray := prog_4_method_3_code
def yX2_isPoint : MethodName := ⟨RX2, "isPoint", "()Z"⟩
def RX3 : String := "SturmRoots$Isolation"
def TX3 : u_T := fun k => match k with
  | 0 => ("SturmRoots$Isolation", "source", "LSturmRoots$Polynomial;", true)
  | 1 => ("SturmRoots$Isolation", "parts", "Ljava/util/ArrayList;", true)
  | 2 => ("SturmRoots$Isolation", "algebra", "LSturmRoots$Algebra;", true)
  | _ => ("SturmRoots$Isolation", "sequence", "LSturmRoots$Sequence;", true)
def tyX3 : Nat → FieldType := fun k => match k with
  | 0 => .object "SturmRoots$Polynomial"
  | 1 => .object "java/util/ArrayList"
  | 2 => .object "SturmRoots$Algebra"
  | _ => .object "SturmRoots$Sequence"
abbrev wsX30 : List Cond := u_ws RX3 TX3 4
theorem nmX3 : ∀ a, a < 4 → ∀ b, b < 4 → a ≠ b → (TX3 a).2.1 ≠ (TX3 b).2.1 := by decide +kernel
theorem tyX3_ok : ∀ k, k < 4 → parseFieldDescriptor (TX3 k).2.2.1 = some (tyX3 k) := by decide +kernel
abbrev cX3_init : ByteArray := prog_5_method_1_code
def yX3_init : MethodName := ⟨RX3, "<init>", "(LSturmRoots$Algebra;)V"⟩
abbrev cX3_begin : ByteArray := prog_5_method_2_code
def yX3_begin : MethodName := ⟨RX3, "begin", "(LSturmRoots$Polynomial;LSturmRoots$Polynomial;I)I"⟩
abbrev cX3_split : ByteArray := prog_5_method_3_code
def yX3_split : MethodName := ⟨RX3, "split", "(I)V"⟩
abbrev cX3_narrow : ByteArray := prog_5_method_4_code
def yX3_narrow : MethodName := ⟨RX3, "narrow", "(LSturmRoots$Interval;)V"⟩
abbrev cX3_dropEmpty : ByteArray := prog_5_method_5_code
def yX3_dropEmpty : MethodName := ⟨RX3, "dropEmpty", "()I"⟩
abbrev cX3_insert : ByteArray := prog_5_method_6_code
def yX3_insert : MethodName := ⟨RX3, "insert", "(IIIII)V"⟩
def RX4 : String := "SturmRoots$Polynomial"
def TX4 : u_T := fun k => match k with
  | 0 => ("SturmRoots$Polynomial", "coefficients", "[LSturmRoots$Big;", true)
  | _ => ("SturmRoots$Polynomial", "degree", "I", false)
def tyX4 : Nat → FieldType := fun k => match k with
  | 0 => .array (.object "SturmRoots$Big")
  | _ => .int
abbrev wsX40 : List Cond := u_ws RX4 TX4 2
theorem nmX4 : ∀ a, a < 2 → ∀ b, b < 2 → a ≠ b → (TX4 a).2.1 ≠ (TX4 b).2.1 := by decide +kernel
theorem tyX4_ok : ∀ k, k < 2 → parseFieldDescriptor (TX4 k).2.2.1 = some (tyX4 k) := by decide +kernel
abbrev cX4_init : ByteArray := prog_6_method_1_code
def yX4_init : MethodName := ⟨RX4, "<init>", "()V"⟩
abbrev cX4_clear : ByteArray := prog_6_method_2_code
def yX4_clear : MethodName := ⟨RX4, "clear", "()V"⟩
abbrev cX4_become : ByteArray := prog_6_method_3_code
def yX4_become : MethodName := ⟨RX4, "become", "(LSturmRoots$Polynomial;)V"⟩
abbrev cX4_becomeRow : ByteArray := prog_6_method_4_code
def yX4_becomeRow : MethodName := ⟨RX4, "becomeRow", "([I)V"⟩
abbrev cX4_becomeDerivative : ByteArray := prog_6_method_5_code
def yX4_becomeDerivative : MethodName := ⟨RX4, "becomeDerivative", "(LSturmRoots$Polynomial;)V"⟩
abbrev cX4_writeRow : ByteArray := prog_6_method_6_code
def yX4_writeRow : MethodName := ⟨RX4, "writeRow", "([J)V"⟩
abbrev cX4_settle : ByteArray := prog_6_method_7_code
def yX4_settle : MethodName := ⟨RX4, "settle", "()V"⟩
abbrev cX4_flipSigns : ByteArray := prog_6_method_8_code
def yX4_flipSigns : MethodName := ⟨RX4, "flipSigns", "()V"⟩
abbrev cX4_makeLeadPositive : ByteArray := prog_6_method_9_code
def yX4_makeLeadPositive : MethodName := ⟨RX4, "makeLeadPositive", "()V"⟩
abbrev cX4_coefficientChanges : ByteArray := prog_6_method_10_code
def yX4_coefficientChanges : MethodName := ⟨RX4, "coefficientChanges", "()I"⟩
def RX5 : String := "SturmRoots$Sequence"
def TX5 : u_T := fun k => match k with
  | 0 => ("SturmRoots$Sequence", "elements", "[LSturmRoots$Polynomial;", true)
  | _ => ("SturmRoots$Sequence", "length", "I", false)
def tyX5 : Nat → FieldType := fun k => match k with
  | 0 => .array (.object "SturmRoots$Polynomial")
  | _ => .int
abbrev wsX50 : List Cond := u_ws RX5 TX5 2
theorem nmX5 : ∀ a, a < 2 → ∀ b, b < 2 → a ≠ b → (TX5 a).2.1 ≠ (TX5 b).2.1 := by decide +kernel
theorem tyX5_ok : ∀ k, k < 2 → parseFieldDescriptor (TX5 k).2.2.1 = some (tyX5 k) := by decide +kernel
abbrev cX5_init : ByteArray := prog_7_method_1_code
def yX5_init : MethodName := ⟨RX5, "<init>", "()V"⟩
def RX6 : String := "SturmRoots"
def TX6 : u_T := fun k => match k with
  | 0 => ("SturmRoots", "slots", "[[I", true)
  | 1 => ("SturmRoots", "row", "[J", true)
  | 2 => ("SturmRoots", "algebra", "LSturmRoots$Algebra;", true)
  | 3 => ("SturmRoots", "subject", "LSturmRoots$Polynomial;", true)
  | 4 => ("SturmRoots", "partner", "LSturmRoots$Polynomial;", true)
  | 5 => ("SturmRoots", "outcome", "LSturmRoots$Polynomial;", true)
  | 6 => ("SturmRoots", "sequence", "LSturmRoots$Sequence;", true)
  | _ => ("SturmRoots", "isolation", "LSturmRoots$Isolation;", true)
def tyX6 : Nat → FieldType := fun k => match k with
  | 0 => .array (.array .int)
  | 1 => .array .long
  | 2 => .object "SturmRoots$Algebra"
  | 3 => .object "SturmRoots$Polynomial"
  | 4 => .object "SturmRoots$Polynomial"
  | 5 => .object "SturmRoots$Polynomial"
  | 6 => .object "SturmRoots$Sequence"
  | _ => .object "SturmRoots$Isolation"
abbrev wsX60 : List Cond := u_ws RX6 TX6 8
theorem nmX6 : ∀ a, a < 8 → ∀ b, b < 8 → a ≠ b → (TX6 a).2.1 ≠ (TX6 b).2.1 := by decide +kernel
theorem tyX6_ok : ∀ k, k < 8 → parseFieldDescriptor (TX6 k).2.2.1 = some (tyX6 k) := by decide +kernel
abbrev cX6_init : ByteArray := prog_1_method_1_code
def yX6_init : MethodName := ⟨RX6, "<init>", "()V"⟩
abbrev cX6_set : ByteArray := prog_1_method_2_code
def yX6_set : MethodName := ⟨RX6, "set", "(III)I"⟩
abbrev cX6_coefficient : ByteArray := prog_1_method_3_code
def yX6_coefficient : MethodName := ⟨RX6, "coefficient", "(II)I"⟩
abbrev cX6_degree : ByteArray := prog_1_method_4_code
def yX6_degree : MethodName := ⟨RX6, "degree", "(I)I"⟩
abbrev cX6_copy : ByteArray := prog_1_method_5_code
def yX6_copy : MethodName := ⟨RX6, "copy", "(II)I"⟩
abbrev cX6_add : ByteArray := prog_1_method_6_code
def yX6_add : MethodName := ⟨RX6, "add", "(III)I"⟩
abbrev cX6_multiply : ByteArray := prog_1_method_7_code
def yX6_multiply : MethodName := ⟨RX6, "multiply", "(III)I"⟩
abbrev cX6_derivative : ByteArray := prog_1_method_8_code
def yX6_derivative : MethodName := ⟨RX6, "derivative", "(II)I"⟩
abbrev cX6_shift : ByteArray := prog_1_method_9_code
def yX6_shift : MethodName := ⟨RX6, "shift", "(III)I"⟩
abbrev cX6_reflect : ByteArray := prog_1_method_10_code
def yX6_reflect : MethodName := ⟨RX6, "reflect", "(II)I"⟩
abbrev cX6_scale : ByteArray := prog_1_method_11_code
def yX6_scale : MethodName := ⟨RX6, "scale", "(III)I"⟩
abbrev cX6_gcd : ByteArray := prog_1_method_12_code
def yX6_gcd : MethodName := ⟨RX6, "gcd", "(III)I"⟩
abbrev cX6_squareFreePart : ByteArray := prog_1_method_13_code
def yX6_squareFreePart : MethodName := ⟨RX6, "squareFreePart", "(II)I"⟩
abbrev cX6_sturmLength : ByteArray := prog_1_method_14_code
def yX6_sturmLength : MethodName := ⟨RX6, "sturmLength", "(I)I"⟩
abbrev cX6_sturmCoefficient : ByteArray := prog_1_method_15_code
def yX6_sturmCoefficient : MethodName := ⟨RX6, "sturmCoefficient", "(III)J"⟩
abbrev cX6_sturmDegree : ByteArray := prog_1_method_16_code
def yX6_sturmDegree : MethodName := ⟨RX6, "sturmDegree", "(II)I"⟩
abbrev cX6_signChanges : ByteArray := prog_1_method_17_code
def yX6_signChanges : MethodName := ⟨RX6, "signChanges", "(III)I"⟩
abbrev cX6_sign : ByteArray := prog_1_method_18_code
def yX6_sign : MethodName := ⟨RX6, "sign", "(III)I"⟩
abbrev cX6_countDistinct : ByteArray := prog_1_method_19_code
def yX6_countDistinct : MethodName := ⟨RX6, "countDistinct", "(IIIII)I"⟩
abbrev cX6_countAll : ByteArray := prog_1_method_20_code
def yX6_countAll : MethodName := ⟨RX6, "countAll", "(IIIII)I"⟩
abbrev cX6_distinctRoots : ByteArray := prog_1_method_21_code
def yX6_distinctRoots : MethodName := ⟨RX6, "distinctRoots", "(I)I"⟩
abbrev cX6_coefficientSignChanges : ByteArray := prog_1_method_22_code
def yX6_coefficientSignChanges : MethodName := ⟨RX6, "coefficientSignChanges", "(I)I"⟩
abbrev cX6_isolate : ByteArray := prog_1_method_23_code
def yX6_isolate : MethodName := ⟨RX6, "isolate", "(I)I"⟩
abbrev cX6_intervals : ByteArray := prog_1_method_24_code
def yX6_intervals : MethodName := ⟨RX6, "intervals", "()I"⟩
abbrev cX6_rootsIn : ByteArray := prog_1_method_25_code
def yX6_rootsIn : MethodName := ⟨RX6, "rootsIn", "(I)I"⟩
abbrev cX6_interval : ByteArray := prog_1_method_26_code
def yX6_interval : MethodName := ⟨RX6, "interval", "(IC)I"⟩
abbrev cX6_bisect : ByteArray := prog_1_method_27_code
def yX6_bisect : MethodName := ⟨RX6, "bisect", "(I)I"⟩
abbrev cX6_refine : ByteArray := prog_1_method_28_code
def yX6_refine : MethodName := ⟨RX6, "refine", "(II)I"⟩
abbrev cX6_removeEmpty : ByteArray := prog_1_method_29_code
def yX6_removeEmpty : MethodName := ⟨RX6, "removeEmpty", "()I"⟩
abbrev cX6_multiplicity : ByteArray := prog_1_method_30_code
def yX6_multiplicity : MethodName := ⟨RX6, "multiplicity", "(I)I"⟩
abbrev cX6_isTrue : ByteArray := prog_1_method_31_code
def yX6_isTrue : MethodName := ⟨RX6, "isTrue", "(I)Z"⟩
abbrev cX6_checksum : ByteArray := prog_1_method_32_code
def yX6_checksum : MethodName := ⟨RX6, "checksum", "()J"⟩
abbrev cX6_requireSlot : ByteArray := prog_1_method_33_code
def yX6_requireSlot : MethodName := ⟨RX6, "requireSlot", "(I)V"⟩
abbrev cX6_requirePower : ByteArray := prog_1_method_34_code
def yX6_requirePower : MethodName := ⟨RX6, "requirePower", "(I)V"⟩
abbrev cX6_requirePoint : ByteArray := prog_1_method_35_code
def yX6_requirePoint : MethodName := ⟨RX6, "requirePoint", "(II)V"⟩
abbrev cX6_requireOrder : ByteArray := prog_1_method_36_code
def yX6_requireOrder : MethodName := ⟨RX6, "requireOrder", "(IIII)V"⟩
abbrev cX6_requireNotZero : ByteArray := prog_1_method_37_code
def yX6_requireNotZero : MethodName := ⟨RX6, "requireNotZero", "(I)V"⟩
abbrev cX6_requireElement : ByteArray := prog_1_method_38_code
def yX6_requireElement : MethodName := ⟨RX6, "requireElement", "(I)V"⟩
abbrev cX6_requireNoRoot : ByteArray := prog_1_method_39_code
def yX6_requireNoRoot : MethodName := ⟨RX6, "requireNoRoot", "(II)V"⟩
abbrev cX6_requireInterval : ByteArray := prog_1_method_40_code
def yX6_requireInterval : MethodName := ⟨RX6, "requireInterval", "(I)V"⟩
abbrev cX6_requireStorable : ByteArray := prog_1_method_41_code
def yX6_requireStorable : MethodName := ⟨RX6, "requireStorable", "()V"⟩
abbrev cX6_degreeOf : ByteArray := prog_1_method_42_code
def yX6_degreeOf : MethodName := ⟨RX6, "degreeOf", "([I)I"⟩
abbrev cX6_clearRow : ByteArray := prog_1_method_43_code
def yX6_clearRow : MethodName := ⟨RX6, "clearRow", "()V"⟩
abbrev cX6_readRow : ByteArray := prog_1_method_44_code
def yX6_readRow : MethodName := ⟨RX6, "readRow", "(I)V"⟩
abbrev cX6_storeRow : ByteArray := prog_1_method_45_code
def yX6_storeRow : MethodName := ⟨RX6, "storeRow", "(I)I"⟩
abbrev cX6_buildSequence : ByteArray := prog_1_method_46_code
def yX6_buildSequence : MethodName := ⟨RX6, "buildSequence", "(I)V"⟩
abbrev cX6_rootBound : ByteArray := prog_1_method_47_code
def yX6_rootBound : MethodName := ⟨RX6, "rootBound", "([I)I"⟩
def RX7 : String := "SturmRootsModel"
def TX7 : u_T := fun k => match k with
  | 0 => ("SturmRootsModel", "thrown", "I", false)
  | 1 => ("SturmRootsModel", "slots", "[[I", true)
  | 2 => ("SturmRootsModel", "t", "[I", true)
  | 3 => ("SturmRootsModel", "u", "[I", true)
  | 4 => ("SturmRootsModel", "v", "[I", true)
  | 5 => ("SturmRootsModel", "w", "[I", true)
  | 6 => ("SturmRootsModel", "x", "[I", true)
  | 7 => ("SturmRootsModel", "y", "[I", true)
  | 8 => ("SturmRootsModel", "one", "[[I", true)
  | 9 => ("SturmRootsModel", "other", "[[I", true)
  | 10 => ("SturmRootsModel", "third", "[[I", true)
  | 11 => ("SturmRootsModel", "common", "[[I", true)
  | 12 => ("SturmRootsModel", "free", "[[I", true)
  | 13 => ("SturmRootsModel", "halves", "[[[I", true)
  | 14 => ("SturmRootsModel", "came", "[I", true)
  | 15 => ("SturmRootsModel", "round", "[[I", true)
  | 16 => ("SturmRootsModel", "made", "[J", true)
  | 17 => ("SturmRootsModel", "here", "[[I", true)
  | 18 => ("SturmRootsModel", "row", "[[[I", true)
  | 19 => ("SturmRootsModel", "length", "I", false)
  | 20 => ("SturmRootsModel", "kept", "[I", true)
  | 21 => ("SturmRootsModel", "keptFree", "[[I", true)
  | 22 => ("SturmRootsModel", "level", "[I", false)
  | 23 => ("SturmRootsModel", "low", "[I", false)
  | 24 => ("SturmRootsModel", "high", "[I", false)
  | 25 => ("SturmRootsModel", "roots", "[I", false)
  | _ => ("SturmRootsModel", "many", "I", false)
def tyX7 : Nat → FieldType := fun k => match k with
  | 0 => .int
  | 1 => .array (.array .int)
  | 2 => .array .int
  | 3 => .array .int
  | 4 => .array .int
  | 5 => .array .int
  | 6 => .array .int
  | 7 => .array .int
  | 8 => .array (.array .int)
  | 9 => .array (.array .int)
  | 10 => .array (.array .int)
  | 11 => .array (.array .int)
  | 12 => .array (.array .int)
  | 13 => .array (.array (.array .int))
  | 14 => .array .int
  | 15 => .array (.array .int)
  | 16 => .array .long
  | 17 => .array (.array .int)
  | 18 => .array (.array (.array .int))
  | 19 => .int
  | 20 => .array .int
  | 21 => .array (.array .int)
  | 22 => .array .int
  | 23 => .array .int
  | 24 => .array .int
  | 25 => .array .int
  | _ => .int
abbrev wsX70 : List Cond := u_ws RX7 TX7 27
theorem nmX7 : ∀ a, a < 27 → ∀ b, b < 27 → a ≠ b → (TX7 a).2.1 ≠ (TX7 b).2.1 := by decide +kernel
theorem tyX7_ok : ∀ k, k < 27 → parseFieldDescriptor (TX7 k).2.2.1 = some (tyX7 k) := by decide +kernel
abbrev cX7_init : ByteArray := prog_9_method_1_code
def yX7_init : MethodName := ⟨RX7, "<init>", "()V"⟩
abbrev cX7_thrown : ByteArray := prog_9_method_2_code
def yX7_thrown : MethodName := ⟨RX7, "thrown", "()I"⟩
abbrev cX7_fails : ByteArray := prog_9_method_3_code
def yX7_fails : MethodName := ⟨RX7, "fails", "(I)I"⟩
abbrev cX7_tells : ByteArray := prog_9_method_4_code
def yX7_tells : MethodName := ⟨RX7, "tells", "(I)I"⟩
abbrev cX7_set : ByteArray := prog_9_method_5_code
def yX7_set : MethodName := ⟨RX7, "set", "([IJ)V"⟩
abbrev cX7_copy : ByteArray := prog_9_method_6_code
def yX7_copy : MethodName := ⟨RX7, "copy", "([I[I)V"⟩
abbrev cX7_sign : ByteArray := prog_9_method_7_code
def yX7_sign : MethodName := ⟨RX7, "sign", "([I)I"⟩
abbrev cX7_add : ByteArray := prog_9_method_8_code
def yX7_add : MethodName := ⟨RX7, "add", "([I[I)V"⟩
abbrev cX7_less : ByteArray := prog_9_method_9_code
def yX7_less : MethodName := ⟨RX7, "less", "([I[II)V"⟩
abbrev cX7_negate : ByteArray := prog_9_method_10_code
def yX7_negate : MethodName := ⟨RX7, "negate", "([I)V"⟩
abbrev cX7_bare : ByteArray := prog_9_method_11_code
def yX7_bare : MethodName := ⟨RX7, "bare", "([I)Z"⟩
abbrev cX7_left : ByteArray := prog_9_method_12_code
def yX7_left : MethodName := ⟨RX7, "left", "([II)V"⟩
abbrev cX7_right : ByteArray := prog_9_method_13_code
def yX7_right : MethodName := ⟨RX7, "right", "([III)V"⟩
abbrev cX7_compare : ByteArray := prog_9_method_14_code
def yX7_compare : MethodName := ⟨RX7, "compare", "([I[II)I"⟩
abbrev cX7_ints : ByteArray := prog_9_method_15_code
def yX7_ints : MethodName := ⟨RX7, "ints", "([I)I"⟩
abbrev cX7_bits : ByteArray := prog_9_method_16_code
def yX7_bits : MethodName := ⟨RX7, "bits", "([I)I"⟩
abbrev cX7_zeros : ByteArray := prog_9_method_17_code
def yX7_zeros : MethodName := ⟨RX7, "zeros", "([I)I"⟩
abbrev cX7_times : ByteArray := prog_9_method_18_code
def yX7_times : MethodName := ⟨RX7, "times", "([IJ)V"⟩
abbrev cX7_multiply : ByteArray := prog_9_method_19_code
def yX7_multiply : MethodName := ⟨RX7, "multiply", "([I[I[I)V"⟩
abbrev cX7_divisor : ByteArray := prog_9_method_20_code
def yX7_divisor : MethodName := ⟨RX7, "divisor", "([I[I)V"⟩
abbrev cX7_quotient : ByteArray := prog_9_method_21_code
def yX7_quotient : MethodName := ⟨RX7, "quotient", "([I[I[I)V"⟩
abbrev cX7_degree : ByteArray := prog_9_method_22_code
def yX7_degree : MethodName := ⟨RX7, "degree", "([[I)I"⟩
abbrev cX7_degree_ : ByteArray := prog_9_method_23_code
def yX7_degree_ : MethodName := ⟨RX7, "degree", "([I)I"⟩
abbrev cX7_copy_ : ByteArray := prog_9_method_24_code
def yX7_copy_ : MethodName := ⟨RX7, "copy", "([[I[[I)V"⟩
abbrev cX7_negate_ : ByteArray := prog_9_method_25_code
def yX7_negate_ : MethodName := ⟨RX7, "negate", "([[I)V"⟩
abbrev cX7_load : ByteArray := prog_9_method_26_code
def yX7_load : MethodName := ⟨RX7, "load", "([I[[I)V"⟩
abbrev cX7_derive : ByteArray := prog_9_method_27_code
def yX7_derive : MethodName := ⟨RX7, "derive", "([[I[[I)V"⟩
abbrev cX7_primitive : ByteArray := prog_9_method_28_code
def yX7_primitive : MethodName := ⟨RX7, "primitive", "([[I)V"⟩
abbrev cX7_positive : ByteArray := prog_9_method_29_code
def yX7_positive : MethodName := ⟨RX7, "positive", "([[I)V"⟩
abbrev cX7_remainder : ByteArray := prog_9_method_30_code
def yX7_remainder : MethodName := ⟨RX7, "remainder", "([[I[[I)V"⟩
abbrev cX7_findCommon : ByteArray := prog_9_method_31_code
def yX7_findCommon : MethodName := ⟨RX7, "findCommon", "()V"⟩
abbrev cX7_findFree : ByteArray := prog_9_method_32_code
def yX7_findFree : MethodName := ⟨RX7, "findFree", "([[I)V"⟩
abbrev cX7_signAt : ByteArray := prog_9_method_33_code
def yX7_signAt : MethodName := ⟨RX7, "signAt", "([[IJI)I"⟩
abbrev cX7_moves : ByteArray := prog_9_method_34_code
def yX7_moves : MethodName := ⟨RX7, "moves", "([[II)V"⟩
abbrev cX7_changes : ByteArray := prog_9_method_35_code
def yX7_changes : MethodName := ⟨RX7, "changes", "([[II)I"⟩
abbrev cX7_changesWithin : ByteArray := prog_9_method_36_code
def yX7_changesWithin : MethodName := ⟨RX7, "changesWithin", "([[II)I"⟩
abbrev cX7_between : ByteArray := prog_9_method_37_code
def yX7_between : MethodName := ⟨RX7, "between", "([[IJJI)I"⟩
abbrev cX7_isSlot : ByteArray := prog_9_method_38_code
def yX7_isSlot : MethodName := ⟨RX7, "isSlot", "(I)Z"⟩
abbrev cX7_in : ByteArray := prog_9_method_39_code
def yX7_in : MethodName := ⟨RX7, "in", "(III)Z"⟩
abbrev cX7_comes : ByteArray := prog_9_method_41_code
def yX7_comes : MethodName := ⟨RX7, "comes", "(II)I"⟩
abbrev cX7_clear : ByteArray := prog_9_method_42_code
def yX7_clear : MethodName := ⟨RX7, "clear", "()V"⟩
abbrev cX7_comesGreat : ByteArray := prog_9_method_43_code
def yX7_comesGreat : MethodName := ⟨RX7, "comesGreat", "([[III)I"⟩
abbrev cX7_set_ : ByteArray := prog_9_method_44_code
def yX7_set_ : MethodName := ⟨RX7, "set", "(III)I"⟩
abbrev cX7_coefficient : ByteArray := prog_9_method_45_code
def yX7_coefficient : MethodName := ⟨RX7, "coefficient", "(II)I"⟩
abbrev cX7_degree__ : ByteArray := prog_9_method_46_code
def yX7_degree__ : MethodName := ⟨RX7, "degree", "(I)I"⟩
abbrev cX7_copy__ : ByteArray := prog_9_method_47_code
def yX7_copy__ : MethodName := ⟨RX7, "copy", "(II)I"⟩
abbrev cX7_add_ : ByteArray := prog_9_method_48_code
def yX7_add_ : MethodName := ⟨RX7, "add", "(III)I"⟩
abbrev cX7_multiply_ : ByteArray := prog_9_method_49_code
def yX7_multiply_ : MethodName := ⟨RX7, "multiply", "(III)I"⟩
abbrev cX7_derivative : ByteArray := prog_9_method_50_code
def yX7_derivative : MethodName := ⟨RX7, "derivative", "(II)I"⟩
abbrev cX7_shift : ByteArray := prog_9_method_51_code
def yX7_shift : MethodName := ⟨RX7, "shift", "(III)I"⟩
abbrev cX7_reflect : ByteArray := prog_9_method_52_code
def yX7_reflect : MethodName := ⟨RX7, "reflect", "(II)I"⟩
abbrev cX7_scale : ByteArray := prog_9_method_53_code
def yX7_scale : MethodName := ⟨RX7, "scale", "(III)I"⟩
abbrev cX7_gcd : ByteArray := prog_9_method_54_code
def yX7_gcd : MethodName := ⟨RX7, "gcd", "(III)I"⟩
abbrev cX7_isZero : ByteArray := prog_9_method_55_code
def yX7_isZero : MethodName := ⟨RX7, "isZero", "(I)Z"⟩
abbrev cX7_squareFreePart : ByteArray := prog_9_method_56_code
def yX7_squareFreePart : MethodName := ⟨RX7, "squareFreePart", "(II)I"⟩
abbrev cX7_findRow : ByteArray := prog_9_method_57_code
def yX7_findRow : MethodName := ⟨RX7, "findRow", "(I)V"⟩
abbrev cX7_sturmLength : ByteArray := prog_9_method_58_code
def yX7_sturmLength : MethodName := ⟨RX7, "sturmLength", "(I)I"⟩
abbrev cX7_sturmCoefficient : ByteArray := prog_9_method_59_code
def yX7_sturmCoefficient : MethodName := ⟨RX7, "sturmCoefficient", "(III)J"⟩
abbrev cX7_sturmDegree : ByteArray := prog_9_method_60_code
def yX7_sturmDegree : MethodName := ⟨RX7, "sturmDegree", "(II)I"⟩
abbrev cX7_isPoint : ByteArray := prog_9_method_61_code
def yX7_isPoint : MethodName := ⟨RX7, "isPoint", "(II)Z"⟩
abbrev cX7_signChanges : ByteArray := prog_9_method_62_code
def yX7_signChanges : MethodName := ⟨RX7, "signChanges", "(III)I"⟩
abbrev cX7_sign_ : ByteArray := prog_9_method_63_code
def yX7_sign_ : MethodName := ⟨RX7, "sign", "(III)I"⟩
abbrev cX7_refused : ByteArray := prog_9_method_64_code
def yX7_refused : MethodName := ⟨RX7, "refused", "(IIIII)I"⟩
abbrev cX7_distinct : ByteArray := prog_9_method_65_code
def yX7_distinct : MethodName := ⟨RX7, "distinct", "(IIII)I"⟩
abbrev cX7_countDistinct : ByteArray := prog_9_method_66_code
def yX7_countDistinct : MethodName := ⟨RX7, "countDistinct", "(IIIII)I"⟩
abbrev cX7_countAll : ByteArray := prog_9_method_67_code
def yX7_countAll : MethodName := ⟨RX7, "countAll", "(IIIII)I"⟩
abbrev cX7_bound : ByteArray := prog_9_method_68_code
def yX7_bound : MethodName := ⟨RX7, "bound", "([I)I"⟩
abbrev cX7_distinctRoots : ByteArray := prog_9_method_69_code
def yX7_distinctRoots : MethodName := ⟨RX7, "distinctRoots", "(I)I"⟩
abbrev cX7_coefficientSignChanges : ByteArray := prog_9_method_70_code
def yX7_coefficientSignChanges : MethodName := ⟨RX7, "coefficientSignChanges", "(I)I"⟩
abbrev cX7_longer : ByteArray := prog_9_method_71_code
def yX7_longer : MethodName := ⟨RX7, "longer", "([I)[I"⟩
abbrev cX7_place : ByteArray := prog_9_method_72_code
def yX7_place : MethodName := ⟨RX7, "place", "(IIII)V"⟩
abbrev cX7_opens : ByteArray := prog_9_method_73_code
def yX7_opens : MethodName := ⟨RX7, "opens", "(II)V"⟩
abbrev cX7_isolate : ByteArray := prog_9_method_74_code
def yX7_isolate : MethodName := ⟨RX7, "isolate", "(I)I"⟩
abbrev cX7_intervals : ByteArray := prog_9_method_75_code
def yX7_intervals : MethodName := ⟨RX7, "intervals", "()I"⟩
abbrev cX7_isInterval : ByteArray := prog_9_method_76_code
def yX7_isInterval : MethodName := ⟨RX7, "isInterval", "(I)Z"⟩
abbrev cX7_rootsIn : ByteArray := prog_9_method_77_code
def yX7_rootsIn : MethodName := ⟨RX7, "rootsIn", "(I)I"⟩
abbrev cX7_interval : ByteArray := prog_9_method_78_code
def yX7_interval : MethodName := ⟨RX7, "interval", "(IC)I"⟩
abbrev cX7_isRoot : ByteArray := prog_9_method_79_code
def yX7_isRoot : MethodName := ⟨RX7, "isRoot", "(II)Z"⟩
abbrev cX7_bisect : ByteArray := prog_9_method_80_code
def yX7_bisect : MethodName := ⟨RX7, "bisect", "(I)I"⟩
abbrev cX7_refine : ByteArray := prog_9_method_81_code
def yX7_refine : MethodName := ⟨RX7, "refine", "(II)I"⟩
abbrev cX7_removeEmpty : ByteArray := prog_9_method_82_code
def yX7_removeEmpty : MethodName := ⟨RX7, "removeEmpty", "()I"⟩
abbrev cX7_multiplicity : ByteArray := prog_9_method_83_code
def yX7_multiplicity : MethodName := ⟨RX7, "multiplicity", "(I)I"⟩
abbrev cX7_isTrue : ByteArray := prog_9_method_84_code
def yX7_isTrue : MethodName := ⟨RX7, "isTrue", "(I)Z"⟩
abbrev cX7_checksum : ByteArray := prog_9_method_85_code
def yX7_checksum : MethodName := ⟨RX7, "checksum", "()J"⟩
def RJx145de : String := "java/io/Serializable"
def TJx145de : u_T := fun k => match k with
  | _ => ("", "", "", false)
def tyJx145de : Nat → FieldType := fun k => match k with
  | _ => .int
abbrev wsJx145de0 : List Cond := u_ws RJx145de TJx145de 0
theorem nmJx145de : ∀ a, a < 0 → ∀ b, b < 0 → a ≠ b → (TJx145de a).2.1 ≠ (TJx145de b).2.1 := by decide +kernel
theorem tyJx145de_ok : ∀ k, k < 0 → parseFieldDescriptor (TJx145de k).2.2.1 = some (tyJx145de k) := by decide +kernel
def RJ5 : String := "java/lang/AbstractStringBuilder"
def TJ5 : u_T := fun k => match k with
  | _ => ("", "", "", false)
def tyJ5 : Nat → FieldType := fun k => match k with
  | _ => .int
abbrev wsJ50 : List Cond := u_ws RJ5 TJ5 0
theorem nmJ5 : ∀ a, a < 0 → ∀ b, b < 0 → a ≠ b → (TJ5 a).2.1 ≠ (TJ5 b).2.1 := by decide +kernel
theorem tyJ5_ok : ∀ k, k < 0 → parseFieldDescriptor (TJ5 k).2.2.1 = some (tyJ5 k) := by decide +kernel
abbrev cJ5_init_d00df : ByteArray := prog_11_method_2_code
def yJ5_init_d00df : MethodName := ⟨RJ5, "<init>", "(I)V"⟩
abbrev cJ5_length_8abf5 : ByteArray := prog_11_method_6_code
def yJ5_length_8abf5 : MethodName := ⟨RJ5, "length", "()I"⟩
abbrev cJ5_ensureCapacityInternal_d00df : ByteArray := prog_11_method_9_code
def yJ5_ensureCapacityInternal_d00df : MethodName := ⟨RJ5, "ensureCapacityInternal", "(I)V"⟩
abbrev cJ5_newCapacity_0f7a4 : ByteArray := prog_11_method_10_code
def yJ5_newCapacity_0f7a4 : MethodName := ⟨RJ5, "newCapacity", "(I)I"⟩
abbrev cJ5_inflate_da8c8 : ByteArray := prog_11_method_11_code
def yJ5_inflate_da8c8 : MethodName := ⟨RJ5, "inflate", "()V"⟩
abbrev cJ5_append_cf1ce : ByteArray := prog_11_method_22_code
def yJ5_append_cf1ce : MethodName := ⟨RJ5, "append", "(Ljava/lang/String;)Ljava/lang/AbstractStringBuilder;"⟩
abbrev cJ5_appendNull_278bc : ByteArray := prog_11_method_26_code
def yJ5_appendNull_278bc : MethodName := ⟨RJ5, "appendNull", "()Ljava/lang/AbstractStringBuilder;"⟩
abbrev cJ5_append_c97b9 : ByteArray := prog_11_method_32_code
def yJ5_append_c97b9 : MethodName := ⟨RJ5, "append", "(I)Ljava/lang/AbstractStringBuilder;"⟩
abbrev cJ5_getValue_6d5f1 : ByteArray := prog_11_method_64_code
def yJ5_getValue_6d5f1 : MethodName := ⟨RJ5, "getValue", "()[B"⟩
abbrev cJ5_isLatin1_aae02 : ByteArray := prog_11_method_68_code
def yJ5_isLatin1_aae02 : MethodName := ⟨RJ5, "isLatin1", "()Z"⟩
abbrev cJ5_inflateIfNeededFor_a7421 : ByteArray := prog_11_method_71_code
def yJ5_inflateIfNeededFor_a7421 : MethodName := ⟨RJ5, "inflateIfNeededFor", "(Ljava/lang/String;)V"⟩
abbrev cJ5_putStringAt_47b60 : ByteArray := prog_11_method_73_code
def yJ5_putStringAt_47b60 : MethodName := ⟨RJ5, "putStringAt", "(ILjava/lang/String;)V"⟩
def RJx2cfe8 : String := "java/lang/Appendable"
def TJx2cfe8 : u_T := fun k => match k with
  | _ => ("", "", "", false)
def tyJx2cfe8 : Nat → FieldType := fun k => match k with
  | _ => .int
abbrev wsJx2cfe80 : List Cond := u_ws RJx2cfe8 TJx2cfe8 0
theorem nmJx2cfe8 : ∀ a, a < 0 → ∀ b, b < 0 → a ≠ b → (TJx2cfe8 a).2.1 ≠ (TJx2cfe8 b).2.1 := by decide +kernel
theorem tyJx2cfe8_ok : ∀ k, k < 0 → parseFieldDescriptor (TJx2cfe8 k).2.2.1 = some (tyJx2cfe8 k) := by decide +kernel
def RJx00060 : String := "java/lang/ArrayIndexOutOfBoundsException"
def TJx00060 : u_T := fun k => match k with
  | 0 => ("java/lang/Throwable", "backtrace", "Ljava/lang/Object;", false)
  | 1 => ("java/lang/Throwable", "detailMessage", "Ljava/lang/String;", false)
  | 2 => ("java/lang/Throwable", "cause", "Ljava/lang/Throwable;", false)
  | 3 => ("java/lang/Throwable", "stackTrace", "[Ljava/lang/StackTraceElement;", false)
  | 4 => ("java/lang/Throwable", "depth", "I", false)
  | _ => ("java/lang/Throwable", "suppressedExceptions", "Ljava/util/List;", false)
def tyJx00060 : Nat → FieldType := fun k => match k with
  | 0 => .object "java/lang/Object"
  | 1 => .object "java/lang/String"
  | 2 => .object "java/lang/Throwable"
  | 3 => .array (.object "java/lang/StackTraceElement")
  | 4 => .int
  | _ => .object "java/util/List"
abbrev wsJx000600 : List Cond := u_ws RJx00060 TJx00060 6
theorem nmJx00060 : ∀ a, a < 6 → ∀ b, b < 6 → a ≠ b → (TJx00060 a).2.1 ≠ (TJx00060 b).2.1 := by decide +kernel
theorem tyJx00060_ok : ∀ k, k < 6 → parseFieldDescriptor (TJx00060 k).2.2.1 = some (tyJx00060 k) := by decide +kernel
abbrev cJx00060_init_a7421 : ByteArray := prog_14_method_2_code
def yJx00060_init_a7421 : MethodName := ⟨RJx00060, "<init>", "(Ljava/lang/String;)V"⟩
def RJx9f9b0 : String := "java/lang/CharSequence"
def TJx9f9b0 : u_T := fun k => match k with
  | _ => ("", "", "", false)
def tyJx9f9b0 : Nat → FieldType := fun k => match k with
  | _ => .int
abbrev wsJx9f9b00 : List Cond := u_ws RJx9f9b0 TJx9f9b0 0
theorem nmJx9f9b0 : ∀ a, a < 0 → ∀ b, b < 0 → a ≠ b → (TJx9f9b0 a).2.1 ≠ (TJx9f9b0 b).2.1 := by decide +kernel
theorem tyJx9f9b0_ok : ∀ k, k < 0 → parseFieldDescriptor (TJx9f9b0 k).2.2.1 = some (tyJx9f9b0 k) := by decide +kernel
def RJx8e188 : String := "java/lang/Cloneable"
def TJx8e188 : u_T := fun k => match k with
  | _ => ("", "", "", false)
def tyJx8e188 : Nat → FieldType := fun k => match k with
  | _ => .int
abbrev wsJx8e1880 : List Cond := u_ws RJx8e188 TJx8e188 0
theorem nmJx8e188 : ∀ a, a < 0 → ∀ b, b < 0 → a ≠ b → (TJx8e188 a).2.1 ≠ (TJx8e188 b).2.1 := by decide +kernel
theorem tyJx8e188_ok : ∀ k, k < 0 → parseFieldDescriptor (TJx8e188 k).2.2.1 = some (tyJx8e188 k) := by decide +kernel
def RJxb160c : String := "java/lang/Comparable"
def TJxb160c : u_T := fun k => match k with
  | _ => ("", "", "", false)
def tyJxb160c : Nat → FieldType := fun k => match k with
  | _ => .int
abbrev wsJxb160c0 : List Cond := u_ws RJxb160c TJxb160c 0
theorem nmJxb160c : ∀ a, a < 0 → ∀ b, b < 0 → a ≠ b → (TJxb160c a).2.1 ≠ (TJxb160c b).2.1 := by decide +kernel
theorem tyJxb160c_ok : ∀ k, k < 0 → parseFieldDescriptor (TJxb160c k).2.2.1 = some (tyJxb160c k) := by decide +kernel
def RJ6 : String := "java/lang/Integer"
def TJ6 : u_T := fun k => match k with
  | _ => ("", "", "", false)
def tyJ6 : Nat → FieldType := fun k => match k with
  | _ => .int
abbrev wsJ60 : List Cond := u_ws RJ6 TJ6 0
theorem nmJ6 : ∀ a, a < 0 → ∀ b, b < 0 → a ≠ b → (TJ6 a).2.1 ≠ (TJ6 b).2.1 := by decide +kernel
theorem tyJ6_ok : ∀ k, k < 0 → parseFieldDescriptor (TJ6 k).2.2.1 = some (tyJ6 k) := by decide +kernel
abbrev cJ6_getChars_ba4f3 : ByteArray := prog_22_method_12_code
def yJ6_getChars_ba4f3 : MethodName := ⟨RJ6, "getChars", "(II[B)I"⟩
abbrev cJ6_stringSize_0f7a4 : ByteArray := prog_22_method_13_code
def yJ6_stringSize_0f7a4 : MethodName := ⟨RJ6, "stringSize", "(I)I"⟩
abbrev cJ6_numberOfLeadingZeros_0f7a4 : ByteArray := prog_22_method_47_code
def yJ6_numberOfLeadingZeros_0f7a4 : MethodName := ⟨RJ6, "numberOfLeadingZeros", "(I)I"⟩
abbrev cJ6_numberOfTrailingZeros_0f7a4 : ByteArray := prog_22_method_48_code
def yJ6_numberOfTrailingZeros_0f7a4 : MethodName := ⟨RJ6, "numberOfTrailingZeros", "(I)I"⟩
def RJxab1ab : String := "java/lang/Iterable"
def TJxab1ab : u_T := fun k => match k with
  | _ => ("", "", "", false)
def tyJxab1ab : Nat → FieldType := fun k => match k with
  | _ => .int
abbrev wsJxab1ab0 : List Cond := u_ws RJxab1ab TJxab1ab 0
theorem nmJxab1ab : ∀ a, a < 0 → ∀ b, b < 0 → a ≠ b → (TJxab1ab a).2.1 ≠ (TJxab1ab b).2.1 := by decide +kernel
theorem tyJxab1ab_ok : ∀ k, k < 0 → parseFieldDescriptor (TJxab1ab k).2.2.1 = some (tyJxab1ab k) := by decide +kernel
def RJ9 : String := "java/lang/Math"
def TJ9 : u_T := fun k => match k with
  | _ => ("", "", "", false)
def tyJ9 : Nat → FieldType := fun k => match k with
  | _ => .int
abbrev wsJ90 : List Cond := u_ws RJ9 TJ9 0
theorem nmJ9 : ∀ a, a < 0 → ∀ b, b < 0 → a ≠ b → (TJ9 a).2.1 ≠ (TJ9 b).2.1 := by decide +kernel
theorem tyJ9_ok : ∀ k, k < 0 → parseFieldDescriptor (TJ9 k).2.2.1 = some (tyJ9 k) := by decide +kernel
abbrev cJ9_abs_0f7a4 : ByteArray := prog_24_method_59_code
def yJ9_abs_0f7a4 : MethodName := ⟨RJ9, "abs", "(I)I"⟩
abbrev cJ9_abs_067f4 : ByteArray := prog_24_method_61_code
def yJ9_abs_067f4 : MethodName := ⟨RJ9, "abs", "(J)J"⟩
abbrev cJ9_max_7cf53 : ByteArray := prog_24_method_65_code
def yJ9_max_7cf53 : MethodName := ⟨RJ9, "max", "(II)I"⟩
abbrev cJ9_min_7cf53 : ByteArray := prog_24_method_69_code
def yJ9_min_7cf53 : MethodName := ⟨RJ9, "min", "(II)I"⟩
abbrev cJ9_min_f86c9 : ByteArray := prog_24_method_70_code
def yJ9_min_f86c9 : MethodName := ⟨RJ9, "min", "(JJ)J"⟩
def RJxd2413 : String := "java/lang/Number"
def TJxd2413 : u_T := fun k => match k with
  | _ => ("", "", "", false)
def tyJxd2413 : Nat → FieldType := fun k => match k with
  | _ => .int
abbrev wsJxd24130 : List Cond := u_ws RJxd2413 TJxd2413 0
theorem nmJxd2413 : ∀ a, a < 0 → ∀ b, b < 0 → a ≠ b → (TJxd2413 a).2.1 ≠ (TJxd2413 b).2.1 := by decide +kernel
theorem tyJxd2413_ok : ∀ k, k < 0 → parseFieldDescriptor (TJxd2413 k).2.2.1 = some (tyJxd2413 k) := by decide +kernel
def RJ0 : String := "java/lang/String"
def TJ0 : u_T := fun k => match k with
  | 0 => ("java/lang/String", "value", "[B", true)
  | 1 => ("java/lang/String", "coder", "B", true)
  | 2 => ("java/lang/String", "hash", "I", false)
  | _ => ("java/lang/String", "hashIsZero", "Z", false)
def tyJ0 : Nat → FieldType := fun k => match k with
  | 0 => .array .byte
  | 1 => .byte
  | 2 => .int
  | _ => .boolean
abbrev wsJ00 : List Cond := u_ws RJ0 TJ0 4
theorem nmJ0 : ∀ a, a < 4 → ∀ b, b < 4 → a ≠ b → (TJ0 a).2.1 ≠ (TJ0 b).2.1 := by decide +kernel
theorem tyJ0_ok : ∀ k, k < 4 → parseFieldDescriptor (TJ0 k).2.2.1 = some (tyJ0 k) := by decide +kernel
abbrev cJ0_init_81219 : ByteArray := prog_27_method_53_code
def yJ0_init_81219 : MethodName := ⟨RJ0, "<init>", "(Ljava/lang/StringBuilder;)V"⟩
abbrev cJ0_length_8abf5 : ByteArray := prog_27_method_54_code
def yJ0_length_8abf5 : MethodName := ⟨RJ0, "length", "()I"⟩
abbrev cJ0_getBytes_840e7 : ByteArray := prog_27_method_147_code
def yJ0_getBytes_840e7 : MethodName := ⟨RJ0, "getBytes", "([BIB)V"⟩
abbrev cJ0_init_db425 : ByteArray := prog_27_method_150_code
def yJ0_init_db425 : MethodName := ⟨RJ0, "<init>", "(Ljava/lang/AbstractStringBuilder;Ljava/lang/Void;)V"⟩
abbrev cJ0_coder_7d493 : ByteArray := prog_27_method_152_code
def yJ0_coder_7d493 : MethodName := ⟨RJ0, "coder", "()B"⟩
abbrev cJ0_checkBoundsOffCount_cabcc : ByteArray := prog_27_method_157_code
def yJ0_checkBoundsOffCount_cabcc : MethodName := ⟨RJ0, "checkBoundsOffCount", "(III)I"⟩
abbrev cJ0_checkBoundsBeginEnd_23922 : ByteArray := prog_27_method_158_code
def yJ0_checkBoundsBeginEnd_23922 : MethodName := ⟨RJ0, "checkBoundsBeginEnd", "(III)V"⟩
def RJ4 : String := "java/lang/StringBuilder"
def TJ4 : u_T := fun k => match k with
  | 0 => ("java/lang/AbstractStringBuilder", "value", "[B", false)
  | 1 => ("java/lang/AbstractStringBuilder", "coder", "B", false)
  | 2 => ("java/lang/AbstractStringBuilder", "maybeLatin1", "Z", false)
  | _ => ("java/lang/AbstractStringBuilder", "count", "I", false)
def tyJ4 : Nat → FieldType := fun k => match k with
  | 0 => .array .byte
  | 1 => .byte
  | 2 => .boolean
  | _ => .int
abbrev wsJ40 : List Cond := u_ws RJ4 TJ4 4
theorem nmJ4 : ∀ a, a < 4 → ∀ b, b < 4 → a ≠ b → (TJ4 a).2.1 ≠ (TJ4 b).2.1 := by decide +kernel
theorem tyJ4_ok : ∀ k, k < 4 → parseFieldDescriptor (TJ4 k).2.2.1 = some (tyJ4 k) := by decide +kernel
abbrev cJ4_init_da8c8 : ByteArray := prog_28_method_1_code
def yJ4_init_da8c8 : MethodName := ⟨RJ4, "<init>", "()V"⟩
abbrev cJ4_append_15ec4 : ByteArray := prog_28_method_7_code
def yJ4_append_15ec4 : MethodName := ⟨RJ4, "append", "(Ljava/lang/String;)Ljava/lang/StringBuilder;"⟩
abbrev cJ4_append_bf812 : ByteArray := prog_28_method_15_code
def yJ4_append_bf812 : MethodName := ⟨RJ4, "append", "(I)Ljava/lang/StringBuilder;"⟩
abbrev cJ4_toString_0e30d : ByteArray := prog_28_method_42_code
def yJ4_toString_0e30d : MethodName := ⟨RJ4, "toString", "()Ljava/lang/String;"⟩
abbrev cJ4_length_8abf5 : ByteArray := prog_28_method_93_code
def yJ4_length_8abf5 : MethodName := ⟨RJ4, "length", "()I"⟩
def RJ1 : String := "java/lang/StringLatin1"
def TJ1 : u_T := fun k => match k with
  | _ => ("", "", "", false)
def tyJ1 : Nat → FieldType := fun k => match k with
  | _ => .int
abbrev wsJ10 : List Cond := u_ws RJ1 TJ1 0
theorem nmJ1 : ∀ a, a < 0 → ∀ b, b < 0 → a ≠ b → (TJ1 a).2.1 ≠ (TJ1 b).2.1 := by decide +kernel
theorem tyJ1_ok : ∀ k, k < 0 → parseFieldDescriptor (TJ1 k).2.2.1 = some (tyJ1 k) := by decide +kernel
abbrev cJ1_inflate_0e8fd : ByteArray := prog_29_method_50_code
def yJ1_inflate_0e8fd : MethodName := ⟨RJ1, "inflate", "([BI[BII)V"⟩
def RJ2 : String := "java/lang/StringUTF16"
def TJ2 : u_T := fun k => match k with
  | _ => ("", "", "", false)
def tyJ2 : Nat → FieldType := fun k => match k with
  | _ => .int
abbrev wsJ20 : List Cond := u_ws RJ2 TJ2 0
theorem nmJ2 : ∀ a, a < 0 → ∀ b, b < 0 → a ≠ b → (TJ2 a).2.1 ≠ (TJ2 b).2.1 := by decide +kernel
theorem tyJ2_ok : ∀ k, k < 0 → parseFieldDescriptor (TJ2 k).2.2.1 = some (tyJ2 k) := by decide +kernel
abbrev cJ2_newBytesFor_77867 : ByteArray := prog_30_method_2_code
def yJ2_newBytesFor_77867 : MethodName := ⟨RJ2, "newBytesFor", "(I)[B"⟩
abbrev cJ2_newBytesLength_0f7a4 : ByteArray := prog_30_method_3_code
def yJ2_newBytesLength_0f7a4 : MethodName := ⟨RJ2, "newBytesLength", "(I)I"⟩
abbrev cJ2_putChar_b72d1 : ByteArray := prog_30_method_4_code
def yJ2_putChar_b72d1 : MethodName := ⟨RJ2, "putChar", "([BII)V"⟩
abbrev cJ2_getChar_3b067 : ByteArray := prog_30_method_5_code
def yJ2_getChar_3b067 : MethodName := ⟨RJ2, "getChar", "([BI)C"⟩
abbrev cJ2_length_9d52b : ByteArray := prog_30_method_6_code
def yJ2_length_9d52b : MethodName := ⟨RJ2, "length", "([B)I"⟩
abbrev cJ2_coderFromArrayLen_85cad : ByteArray := prog_30_method_15_code
def yJ2_coderFromArrayLen_85cad : MethodName := ⟨RJ2, "coderFromArrayLen", "([BI)B"⟩
abbrev cJ2_compress_39247 : ByteArray := prog_30_method_17_code
def yJ2_compress_39247 : MethodName := ⟨RJ2, "compress", "([BII)[B"⟩
abbrev cJ2_compress_5af95 : ByteArray := prog_30_method_22_code
def yJ2_compress_5af95 : MethodName := ⟨RJ2, "compress", "([BI[BII)I"⟩
abbrev cJ2_getChars_46870 : ByteArray := prog_30_method_77_code
def yJ2_getChars_46870 : MethodName := ⟨RJ2, "getChars", "(III[B)I"⟩
abbrev cJ2_putCharsAt_cd4e5 : ByteArray := prog_30_method_81_code
def yJ2_putCharsAt_cd4e5 : MethodName := ⟨RJ2, "putCharsAt", "([BICCCC)I"⟩
abbrev cJ2_inflate_0e8fd : ByteArray := prog_30_method_86_code
def yJ2_inflate_0e8fd : MethodName := ⟨RJ2, "inflate", "([BI[BII)V"⟩
abbrev cJ2_getChars_ba4f3 : ByteArray := prog_30_method_89_code
def yJ2_getChars_ba4f3 : MethodName := ⟨RJ2, "getChars", "(II[B)I"⟩
abbrev cJ2_checkBoundsBeginEnd_d044e : ByteArray := prog_30_method_93_code
def yJ2_checkBoundsBeginEnd_d044e : MethodName := ⟨RJ2, "checkBoundsBeginEnd", "(II[B)V"⟩
abbrev cJ2_checkBoundsOffCount_d044e : ByteArray := prog_30_method_94_code
def yJ2_checkBoundsOffCount_d044e : MethodName := ⟨RJ2, "checkBoundsOffCount", "(II[B)V"⟩
def RJ10 : String := "java/lang/System"
def TJ10 : u_T := fun k => match k with
  | _ => ("", "", "", false)
def tyJ10 : Nat → FieldType := fun k => match k with
  | _ => .int
abbrev wsJ100 : List Cond := u_ws RJ10 TJ10 0
theorem nmJ10 : ∀ a, a < 0 → ∀ b, b < 0 → a ≠ b → (TJ10 a).2.1 ≠ (TJ10 b).2.1 := by decide +kernel
theorem tyJ10_ok : ∀ k, k < 0 → parseFieldDescriptor (TJ10 k).2.2.1 = some (tyJ10 k) := by decide +kernel
def RJxfd54e : String := "java/lang/constant/Constable"
def TJxfd54e : u_T := fun k => match k with
  | _ => ("", "", "", false)
def tyJxfd54e : Nat → FieldType := fun k => match k with
  | _ => .int
abbrev wsJxfd54e0 : List Cond := u_ws RJxfd54e TJxfd54e 0
theorem nmJxfd54e : ∀ a, a < 0 → ∀ b, b < 0 → a ≠ b → (TJxfd54e a).2.1 ≠ (TJxfd54e b).2.1 := by decide +kernel
theorem tyJxfd54e_ok : ∀ k, k < 0 → parseFieldDescriptor (TJxfd54e k).2.2.1 = some (tyJxfd54e k) := by decide +kernel
def RJx3cf43 : String := "java/lang/constant/ConstantDesc"
def TJx3cf43 : u_T := fun k => match k with
  | _ => ("", "", "", false)
def tyJx3cf43 : Nat → FieldType := fun k => match k with
  | _ => .int
abbrev wsJx3cf430 : List Cond := u_ws RJx3cf43 TJx3cf43 0
theorem nmJx3cf43 : ∀ a, a < 0 → ∀ b, b < 0 → a ≠ b → (TJx3cf43 a).2.1 ≠ (TJx3cf43 b).2.1 := by decide +kernel
theorem tyJx3cf43_ok : ∀ k, k < 0 → parseFieldDescriptor (TJx3cf43 k).2.2.1 = some (tyJx3cf43 k) := by decide +kernel
def RJxa1e45 : String := "java/util/AbstractCollection"
def TJxa1e45 : u_T := fun k => match k with
  | _ => ("", "", "", false)
def tyJxa1e45 : Nat → FieldType := fun k => match k with
  | _ => .int
abbrev wsJxa1e450 : List Cond := u_ws RJxa1e45 TJxa1e45 0
theorem nmJxa1e45 : ∀ a, a < 0 → ∀ b, b < 0 → a ≠ b → (TJxa1e45 a).2.1 ≠ (TJxa1e45 b).2.1 := by decide +kernel
theorem tyJxa1e45_ok : ∀ k, k < 0 → parseFieldDescriptor (TJxa1e45 k).2.2.1 = some (tyJxa1e45 k) := by decide +kernel
abbrev cJxa1e45_init_da8c8 : ByteArray := prog_35_method_1_code
def yJxa1e45_init_da8c8 : MethodName := ⟨RJxa1e45, "<init>", "()V"⟩
def RJxc12de : String := "java/util/AbstractList"
def TJxc12de : u_T := fun k => match k with
  | _ => ("", "", "", false)
def tyJxc12de : Nat → FieldType := fun k => match k with
  | _ => .int
abbrev wsJxc12de0 : List Cond := u_ws RJxc12de TJxc12de 0
theorem nmJxc12de : ∀ a, a < 0 → ∀ b, b < 0 → a ≠ b → (TJxc12de a).2.1 ≠ (TJxc12de b).2.1 := by decide +kernel
theorem tyJxc12de_ok : ∀ k, k < 0 → parseFieldDescriptor (TJxc12de k).2.2.1 = some (tyJxc12de k) := by decide +kernel
abbrev cJxc12de_init_da8c8 : ByteArray := prog_36_method_1_code
def yJxc12de_init_da8c8 : MethodName := ⟨RJxc12de, "<init>", "()V"⟩
def RJx4a65c : String := "java/util/ArrayList"
def TJx4a65c : u_T := fun k => match k with
  | 0 => ("java/util/AbstractList", "modCount", "I", false)
  | 1 => ("java/util/ArrayList", "elementData", "[Ljava/lang/Object;", false)
  | _ => ("java/util/ArrayList", "size", "I", false)
def tyJx4a65c : Nat → FieldType := fun k => match k with
  | 0 => .int
  | 1 => .array (.object "java/lang/Object")
  | _ => .int
abbrev wsJx4a65c0 : List Cond := u_ws RJx4a65c TJx4a65c 3
theorem nmJx4a65c : ∀ a, a < 3 → ∀ b, b < 3 → a ≠ b → (TJx4a65c a).2.1 ≠ (TJx4a65c b).2.1 := by decide +kernel
theorem tyJx4a65c_ok : ∀ k, k < 3 → parseFieldDescriptor (TJx4a65c k).2.2.1 = some (tyJx4a65c k) := by decide +kernel
abbrev cJx4a65c_init_da8c8 : ByteArray := prog_37_method_2_code
def yJx4a65c_init_da8c8 : MethodName := ⟨RJx4a65c, "<init>", "()V"⟩
abbrev cJx4a65c_grow_92f84 : ByteArray := prog_37_method_6_code
def yJx4a65c_grow_92f84 : MethodName := ⟨RJx4a65c, "grow", "(I)[Ljava/lang/Object;"⟩
abbrev cJx4a65c_grow_d5877 : ByteArray := prog_37_method_7_code
def yJx4a65c_grow_d5877 : MethodName := ⟨RJx4a65c, "grow", "()[Ljava/lang/Object;"⟩
abbrev cJx4a65c_size_8abf5 : ByteArray := prog_37_method_8_code
def yJx4a65c_size_8abf5 : MethodName := ⟨RJx4a65c, "size", "()I"⟩
abbrev cJx4a65c_elementData_915e3 : ByteArray := prog_37_method_18_code
def yJx4a65c_elementData_915e3 : MethodName := ⟨RJx4a65c, "elementData", "(I)Ljava/lang/Object;"⟩
abbrev cJx4a65c_get_915e3 : ByteArray := prog_37_method_20_code
def yJx4a65c_get_915e3 : MethodName := ⟨RJx4a65c, "get", "(I)Ljava/lang/Object;"⟩
abbrev cJx4a65c_add_7a177 : ByteArray := prog_37_method_26_code
def yJx4a65c_add_7a177 : MethodName := ⟨RJx4a65c, "add", "(ILjava/lang/Object;)V"⟩
abbrev cJx4a65c_remove_915e3 : ByteArray := prog_37_method_29_code
def yJx4a65c_remove_915e3 : MethodName := ⟨RJx4a65c, "remove", "(I)Ljava/lang/Object;"⟩
abbrev cJx4a65c_fastRemove_b59b0 : ByteArray := prog_37_method_39_code
def yJx4a65c_fastRemove_b59b0 : MethodName := ⟨RJx4a65c, "fastRemove", "([Ljava/lang/Object;I)V"⟩
abbrev cJx4a65c_clear_da8c8 : ByteArray := prog_37_method_40_code
def yJx4a65c_clear_da8c8 : MethodName := ⟨RJx4a65c, "clear", "()V"⟩
abbrev cJx4a65c_rangeCheckForAdd_d00df : ByteArray := prog_37_method_45_code
def yJx4a65c_rangeCheckForAdd_d00df : MethodName := ⟨RJx4a65c, "rangeCheckForAdd", "(I)V"⟩
abbrev cJx4a65c_outOfBoundsMsg_b52d3 : ByteArray := prog_37_method_46_code
def yJx4a65c_outOfBoundsMsg_b52d3 : MethodName := ⟨RJx4a65c, "outOfBoundsMsg", "(I)Ljava/lang/String;"⟩
def RJ7 : String := "java/util/Arrays"
def TJ7 : u_T := fun k => match k with
  | _ => ("", "", "", false)
def tyJ7 : Nat → FieldType := fun k => match k with
  | _ => .int
abbrev wsJ70 : List Cond := u_ws RJ7 TJ7 0
theorem nmJ7 : ∀ a, a < 0 → ∀ b, b < 0 → a ≠ b → (TJ7 a).2.1 ≠ (TJ7 b).2.1 := by decide +kernel
theorem tyJ7_ok : ∀ k, k < 0 → parseFieldDescriptor (TJ7 k).2.2.1 = some (tyJ7 k) := by decide +kernel
abbrev cJ7_copyOf_1904c : ByteArray := prog_38_method_119_code
def yJ7_copyOf_1904c : MethodName := ⟨RJ7, "copyOf", "([Ljava/lang/Object;I)[Ljava/lang/Object;"⟩
abbrev cJ7_copyOf_6403c : ByteArray := prog_38_method_120_code
def yJ7_copyOf_6403c : MethodName := ⟨RJ7, "copyOf", "([Ljava/lang/Object;ILjava/lang/Class;)[Ljava/lang/Object;"⟩
abbrev cJ7_copyOf_9075b : ByteArray := prog_38_method_121_code
def yJ7_copyOf_9075b : MethodName := ⟨RJ7, "copyOf", "([BI)[B"⟩
abbrev cJ7_checkLength_df160 : ByteArray := prog_38_method_131_code
def yJ7_checkLength_df160 : MethodName := ⟨RJ7, "checkLength", "(II)V"⟩
abbrev cJ7_copyOfRange_39247 : ByteArray := prog_38_method_132_code
def yJ7_copyOfRange_39247 : MethodName := ⟨RJ7, "copyOfRange", "([BII)[B"⟩
abbrev cJ7_copyOfRangeByte_39247 : ByteArray := prog_38_method_133_code
def yJ7_copyOfRangeByte_39247 : MethodName := ⟨RJ7, "copyOfRangeByte", "([BII)[B"⟩
def RJx5ef63 : String := "java/util/Collection"
def TJx5ef63 : u_T := fun k => match k with
  | _ => ("", "", "", false)
def tyJx5ef63 : Nat → FieldType := fun k => match k with
  | _ => .int
abbrev wsJx5ef630 : List Cond := u_ws RJx5ef63 TJx5ef63 0
theorem nmJx5ef63 : ∀ a, a < 0 → ∀ b, b < 0 → a ≠ b → (TJx5ef63 a).2.1 ≠ (TJx5ef63 b).2.1 := by decide +kernel
theorem tyJx5ef63_ok : ∀ k, k < 0 → parseFieldDescriptor (TJx5ef63 k).2.2.1 = some (tyJx5ef63 k) := by decide +kernel
def RJxbd725 : String := "java/util/List"
def TJxbd725 : u_T := fun k => match k with
  | _ => ("", "", "", false)
def tyJxbd725 : Nat → FieldType := fun k => match k with
  | _ => .int
abbrev wsJxbd7250 : List Cond := u_ws RJxbd725 TJxbd725 0
theorem nmJxbd725 : ∀ a, a < 0 → ∀ b, b < 0 → a ≠ b → (TJxbd725 a).2.1 ≠ (TJxbd725 b).2.1 := by decide +kernel
theorem tyJxbd725_ok : ∀ k, k < 0 → parseFieldDescriptor (TJxbd725 k).2.2.1 = some (tyJxbd725 k) := by decide +kernel
def RJ15 : String := "java/util/Objects"
def TJ15 : u_T := fun k => match k with
  | _ => ("", "", "", false)
def tyJ15 : Nat → FieldType := fun k => match k with
  | _ => .int
abbrev wsJ150 : List Cond := u_ws RJ15 TJ15 0
theorem nmJ15 : ∀ a, a < 0 → ∀ b, b < 0 → a ≠ b → (TJ15 a).2.1 ≠ (TJ15 b).2.1 := by decide +kernel
theorem tyJ15_ok : ∀ k, k < 0 → parseFieldDescriptor (TJ15 k).2.2.1 = some (tyJ15 k) := by decide +kernel
abbrev cJ15_checkIndex_7cf53 : ByteArray := prog_42_method_17_code
def yJ15_checkIndex_7cf53 : MethodName := ⟨RJ15, "checkIndex", "(II)I"⟩
def RJxf0a74 : String := "java/util/RandomAccess"
def TJxf0a74 : u_T := fun k => match k with
  | _ => ("", "", "", false)
def tyJxf0a74 : Nat → FieldType := fun k => match k with
  | _ => .int
abbrev wsJxf0a740 : List Cond := u_ws RJxf0a74 TJxf0a74 0
theorem nmJxf0a74 : ∀ a, a < 0 → ∀ b, b < 0 → a ≠ b → (TJxf0a74 a).2.1 ≠ (TJxf0a74 b).2.1 := by decide +kernel
theorem tyJxf0a74_ok : ∀ k, k < 0 → parseFieldDescriptor (TJxf0a74 k).2.2.1 = some (tyJxf0a74 k) := by decide +kernel
def RJxa66e6 : String := "java/util/SequencedCollection"
def TJxa66e6 : u_T := fun k => match k with
  | _ => ("", "", "", false)
def tyJxa66e6 : Nat → FieldType := fun k => match k with
  | _ => .int
abbrev wsJxa66e60 : List Cond := u_ws RJxa66e6 TJxa66e6 0
theorem nmJxa66e6 : ∀ a, a < 0 → ∀ b, b < 0 → a ≠ b → (TJxa66e6 a).2.1 ≠ (TJxa66e6 b).2.1 := by decide +kernel
theorem tyJxa66e6_ok : ∀ k, k < 0 → parseFieldDescriptor (TJxa66e6 k).2.2.1 = some (tyJxa66e6 k) := by decide +kernel
def RJ8 : String := "jdk/internal/util/ArraysSupport"
def TJ8 : u_T := fun k => match k with
  | _ => ("", "", "", false)
def tyJ8 : Nat → FieldType := fun k => match k with
  | _ => .int
abbrev wsJ80 : List Cond := u_ws RJ8 TJ8 0
theorem nmJ8 : ∀ a, a < 0 → ∀ b, b < 0 → a ≠ b → (TJ8 a).2.1 ≠ (TJ8 b).2.1 := by decide +kernel
theorem tyJ8_ok : ∀ k, k < 0 → parseFieldDescriptor (TJ8 k).2.2.1 = some (tyJ8 k) := by decide +kernel
abbrev cJ8_newLength_cabcc : ByteArray := prog_45_method_27_code
def yJ8_newLength_cabcc : MethodName := ⟨RJ8, "newLength", "(III)I"⟩
abbrev cJ8_hugeLength_7cf53 : ByteArray := prog_45_method_28_code
def yJ8_hugeLength_7cf53 : MethodName := ⟨RJ8, "hugeLength", "(II)I"⟩
def RJ3 : String := "jdk/internal/util/Preconditions"
def TJ3 : u_T := fun k => match k with
  | _ => ("", "", "", false)
def tyJ3 : Nat → FieldType := fun k => match k with
  | _ => .int
abbrev wsJ30 : List Cond := u_ws RJ3 TJ3 0
theorem nmJ3 : ∀ a, a < 0 → ∀ b, b < 0 → a ≠ b → (TJ3 a).2.1 ≠ (TJ3 b).2.1 := by decide +kernel
theorem tyJ3_ok : ∀ k, k < 0 → parseFieldDescriptor (TJ3 k).2.2.1 = some (tyJ3 k) := by decide +kernel
abbrev cJ3_checkIndex_8e157 : ByteArray := prog_46_method_11_code
def yJ3_checkIndex_8e157 : MethodName := ⟨RJ3, "checkIndex", "(IILjava/util/function/BiFunction;)I"⟩
abbrev cJ3_checkFromToIndex_8c36e : ByteArray := prog_46_method_12_code
def yJ3_checkFromToIndex_8c36e : MethodName := ⟨RJ3, "checkFromToIndex", "(IIILjava/util/function/BiFunction;)I"⟩
abbrev cJ3_checkFromIndexSize_8c36e : ByteArray := prog_46_method_13_code
def yJ3_checkFromIndexSize_8c36e : MethodName := ⟨RJ3, "checkFromIndexSize", "(IIILjava/util/function/BiFunction;)I"⟩
def RL : String := "SturmRootsLaw"
abbrev cL_set : ByteArray := method_3_code
def yL_set : MethodName := ⟨RL, "set", "(LSturmRoots;III[J)I"⟩
abbrev cL_coefficient : ByteArray := method_4_code
def yL_coefficient : MethodName := ⟨RL, "coefficient", "(LSturmRoots;II[J)I"⟩
abbrev cL_degree : ByteArray := method_5_code
def yL_degree : MethodName := ⟨RL, "degree", "(LSturmRoots;I[J)I"⟩
abbrev cL_copy : ByteArray := method_6_code
def yL_copy : MethodName := ⟨RL, "copy", "(LSturmRoots;II[J)I"⟩
abbrev cL_add : ByteArray := method_7_code
def yL_add : MethodName := ⟨RL, "add", "(LSturmRoots;III[J)I"⟩
abbrev cL_multiply : ByteArray := method_8_code
def yL_multiply : MethodName := ⟨RL, "multiply", "(LSturmRoots;III[J)I"⟩
abbrev cL_derivative : ByteArray := method_9_code
def yL_derivative : MethodName := ⟨RL, "derivative", "(LSturmRoots;II[J)I"⟩
abbrev cL_shift : ByteArray := method_10_code
def yL_shift : MethodName := ⟨RL, "shift", "(LSturmRoots;III[J)I"⟩
abbrev cL_reflect : ByteArray := method_11_code
def yL_reflect : MethodName := ⟨RL, "reflect", "(LSturmRoots;II[J)I"⟩
abbrev cL_scale : ByteArray := method_12_code
def yL_scale : MethodName := ⟨RL, "scale", "(LSturmRoots;III[J)I"⟩
abbrev cL_gcd : ByteArray := method_13_code
def yL_gcd : MethodName := ⟨RL, "gcd", "(LSturmRoots;III[J)I"⟩
abbrev cL_squareFreePart : ByteArray := method_14_code
def yL_squareFreePart : MethodName := ⟨RL, "squareFreePart", "(LSturmRoots;II[J)I"⟩
abbrev cL_sturmLength : ByteArray := method_15_code
def yL_sturmLength : MethodName := ⟨RL, "sturmLength", "(LSturmRoots;I[J)I"⟩
abbrev cL_sturmCoefficient : ByteArray := method_16_code
def yL_sturmCoefficient : MethodName := ⟨RL, "sturmCoefficient", "(LSturmRoots;III[J)I"⟩
abbrev cL_sturmDegree : ByteArray := method_17_code
def yL_sturmDegree : MethodName := ⟨RL, "sturmDegree", "(LSturmRoots;II[J)I"⟩
abbrev cL_signChanges : ByteArray := method_18_code
def yL_signChanges : MethodName := ⟨RL, "signChanges", "(LSturmRoots;III[J)I"⟩
abbrev cL_sign : ByteArray := method_19_code
def yL_sign : MethodName := ⟨RL, "sign", "(LSturmRoots;III[J)I"⟩
abbrev cL_countDistinct : ByteArray := method_20_code
def yL_countDistinct : MethodName := ⟨RL, "countDistinct", "(LSturmRoots;IIIII[J)I"⟩
abbrev cL_countAll : ByteArray := method_21_code
def yL_countAll : MethodName := ⟨RL, "countAll", "(LSturmRoots;IIIII[J)I"⟩
abbrev cL_distinctRoots : ByteArray := method_22_code
def yL_distinctRoots : MethodName := ⟨RL, "distinctRoots", "(LSturmRoots;I[J)I"⟩
abbrev cL_coefficientSignChanges : ByteArray := method_23_code
def yL_coefficientSignChanges : MethodName := ⟨RL, "coefficientSignChanges", "(LSturmRoots;I[J)I"⟩
abbrev cL_isolate : ByteArray := method_24_code
def yL_isolate : MethodName := ⟨RL, "isolate", "(LSturmRoots;I[J)I"⟩
abbrev cL_rootsIn : ByteArray := method_25_code
def yL_rootsIn : MethodName := ⟨RL, "rootsIn", "(LSturmRoots;I[J)I"⟩
abbrev cL_interval : ByteArray := method_26_code
def yL_interval : MethodName := ⟨RL, "interval", "(LSturmRoots;IC[J)I"⟩
abbrev cL_bisect : ByteArray := method_27_code
def yL_bisect : MethodName := ⟨RL, "bisect", "(LSturmRoots;I[J)I"⟩
abbrev cL_refine : ByteArray := method_28_code
def yL_refine : MethodName := ⟨RL, "refine", "(LSturmRoots;II[J)I"⟩
abbrev cL_multiplicity : ByteArray := method_29_code
def yL_multiplicity : MethodName := ⟨RL, "multiplicity", "(LSturmRoots;I[J)I"⟩
abbrev cL_isTrue : ByteArray := method_30_code
def yL_isTrue : MethodName := ⟨RL, "isTrue", "(LSturmRoots;I[J)I"⟩
abbrev cL_law : ByteArray := code
def yL_law : MethodName := ⟨RL, "law", "([I)Z"⟩
abbrev vwCl : List vw_C := [(RJ0, TJ0, 4), (RJ4, TJ4, 4), (RJx00060, TJx00060, 6), (RJx4a65c, TJx4a65c, 3), (RX0, TX0, 14), (RX1, TX1, 3), (RX2, TX2, 4), (RX3, TX3, 4), (RX4, TX4, 2), (RX5, TX5, 2), (RX6, TX6, 8), (RX7, TX7, 27)]
