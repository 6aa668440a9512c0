def tzC : List String := ["java/lang/RuntimeException", "java/lang/Exception"]
def tzI : String := "java/lang/IndexOutOfBoundsException"
theorem tz1 : ∀ w ∈ vx_atS "SturmRoots" 254 tzI tzC, w ∈ lw_tbl := by decide +kernel
theorem tz2 : (vx_atS "SturmRoots" 254 tzI tzC).all goodWord = true := by decide +kernel
theorem tz3 : (vx_atS "SturmRoots" 254 tzI tzC).all (fun w => goodWord w || mBadK w) = true := by decide +kernel
theorem tz4 : (vx_atS "SturmRoots" 254 tzI tzC).all (fun w => vx_ot w) = true := by decide +kernel
theorem tz5 : (vx_atS "SturmRoots" 267 "java/lang/ArithmeticException" tzC).all (fun w => lw_tbl.contains w) = true := by decide +kernel
theorem tz6 : ∀ w ∈ vx_atS "SturmRoots" 272 "java/util/NoSuchElementException" tzC, w ∈ lw_tbl := by decide +kernel
theorem tz7 : ∀ w ∈ vx_atS "SturmRoots" 65 "java/lang/IllegalArgumentException" tzC, w ∈ lw_tbl := by decide +kernel
theorem tz8 : ∀ w ∈ vx_atS "SturmRoots" 86 "java/lang/IllegalStateException" tzC, w ∈ lw_tbl := by decide +kernel
theorem tz9 : mStrs.length = 21 := by decide +kernel
