/-! What a byte and a boolean keep of small numbers -/
theorem nar_byte : ∀ a, a < 16 → vp_nar .byte (nI a).toInt8.toInt32 = nI a := by decide +kernel
theorem nar_b0 : vp_nar .boolean (0 : Int32) = 0 := by decide +kernel
theorem nar_b1 : vp_nar .boolean (1 : Int32) = 1 := by decide +kernel
